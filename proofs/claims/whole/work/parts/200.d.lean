/-! What the methods do to the abstract heap: X3_clear, X3_clearAll, X0_exists, X0_isOvertaking, X9_fillRow, X0_start, X9_copyRow, X3_copyFrom, X0_copyFrom, J6_bitCount_0f7a4, X0_arrivedFrom, X0_hasPut, X0_isOnlyBehind, X3_isList, X3_isRecord, X3_add, X0_keep, X9_channel, X3_moveAll, X3_sizeOf, X3_firstOf, X3_takeFirst, X7_keyOf, X9_ownerOf, X0_spread, X7_chosen, X1_showLatest, X3_behind, X1_goBackToLatest, X1_recover, X1_start, X1_copyFrom, X1_startCheckpoint, X1_putBarriers, X9_numberOf, X1_sendRecord, X1_sendersTo, X1_cut, X1_keepFirst, X1_letBarrierArrive, X1_letBarriersOvertake, X7_sinkOf, X1_channelForResult, X1_canBeTaken, X1_senderInTurn, X7_valueOf, X1_addUp, X1_take, X1_completeIfAllArrived, X1_tick, X1_ticksToCompletion, X1_recoverWith, X1_isQuiet, X1_thingsIn, X1_recordsTo, X1_resultsFrom, X1_handledInAll, X1_positionsInAll, X1_recordsAtRisk, X2_addByte, X2_addFourBytes, X2_byteAt, X3_at, X4_add, X4_addNumber, X7_clear, X5_kindAt, X5_advance, J0_coder_7d493, J0_length_8abf5, J0_isLatin1_aae02, J3_checkIndex_8e157, J0_checkIndex_df160, J1_charAt_3b067, J2_length_9d52b, J2_checkIndex_2214a, J2_charAt_3b067, J0_charAt_5068e, X5_isToken, X5_quotedWord, X5_refuse, X7_isName, X7_named, X7_setName, X5_readName, X5_readWord, X5_readNumber, X5_readSource, X5_readSemicolon, X5_readSetting, X5_readStatement, X7_makeRecords, X7_makeResults, X7_finish, X5_read, X6_forget, X6_remember, X6_giveBack, X7_makePlain, X7_resultOf, X7_resultBehind, X9_feed, X9_truncate, X9_parse, X9_errorCode, X9_errorOffset, X9_count, X9_find, X9_groupsOf, X9_atRisk, X9_fullest, X9_fail, X9_groupsMoved, X9_wouldTake, X9_wouldKeep, X9_quietIn, X9_outputByte, X9_saveState, X10_clears, X10_copies, X10_takesDraft, X10_thrown, X10_is, X10_may, X10_isIn, X10_starts, X10_done, X10_undo, X10_saveState, X10_restoreState, X10_tries, X10_laysBack, X10_adds, X10_at, X10_removes, X10_empties, X10_addsAll, X10_becomes, X10_barrierIn, X10_barriers, X10_things, X10_isFull, X10_channelIn, X10_channelOut, X10_toInstance, X10_toSink, X10_keptIn, X10_keptOut, X10_doneIn, X10_doneOut, X10_results, X10_keyOf, X10_valueOf, X10_ownerAmong, X10_ownerOf, X10_sinkOf, X10_emptiesKept, X10_begins, X10_laysKept, X10_overtakes, X10_arrivedAt, X10_arrivedAtSink, X10_notes, X10_closes, X10_aligns, X10_alignsAtSink, X10_keepsAhead, X10_overtakesAt, X10_overtakesAtSink, X10_isComplete, X10_completes, X10_shows, X10_sends, X10_canTake, X10_takes, X10_handles, X10_takesAtSink, X10_handlesAtSink, X10_ticks, X10_isTicks, X10_run, X10_begin, X10_risk, X10_laysDone, X10_fails, X10_parts, X10_rescales, X10_fail, X10_isMany, X10_rescale, X10_changes, X10_setRoom, X10_isSource, X10_setLag, X10_setEvery, X10_completesWithin, X10_completesIn, X10_wouldTake, X10_allIn, X10_wouldKeep, X10_isQuiet, X10_quietWithin, X10_quietIn, X10_allHandled, X10_handledWith, X10_bestInstances, X10_isInstance, X10_isSink, X10_isKey, X10_count, X10_source, X10_record, X10_owner, X10_sum, X10_groupsOf, X10_blockedOf, X10_blockedOfSink, X10_recordsTo, X10_resultsFrom, X10_instance, X10_sink, X10_shown, X10_inChannel, X10_outChannel, X10_sumOf, X10_progress, X10_completed, X10_notedPosition, X10_notedSum, X10_shownOf, X10_expected, X10_atRisk, X10_fullest, X10_feed, X10_truncate, X10_here, X10_wordHere, X10_next, X10_fine, X10_needs, X10_goOn, X10_isWord, X10_number, X10_numberBehind, X10_nameHere, X10_placeOf, X10_readsSource, X10_once, X10_readsOnce, X10_statement, X10_startsReading, X10_parse, X10_errorCode, X10_errorOffset, X10_find, X10_says, X10_outputByte -/
def fX3_clear (σ : zS) (x0 : Nat) (x1 : Int32) : Option zS :=
  (if x1 < ((zi 0)) then some σ else (if ((zi 30)) ≤ x1 then some σ else (zgR 3 1 σ x0).bind fun v1 => (zsI σ v1 x1 ((zi (-1)))).bind fun σ2 => (zgR 3 2 σ2 x0).bind fun v3 => (zsI σ2 v3 x1 ((zi (-1)))).bind fun σ4 => (zgR 3 3 σ4 x0).bind fun v5 => (zsI σ4 v5 x1 ((zi 0))).bind fun σ6 => some σ6))
def sX3_clearAll_2b (x0 : Nat) (σ : zS) (u1 : Int32) : Option ((zS × Int32) ⊕ zS) :=
  (if ((zi 30)) ≤ u1 then some (.inr σ) else (zck 3 σ x0 (fX3_clear σ x0 u1)).bind fun c1 => some (.inl (c1, u1 + (zi 1))))
def sX3_clearAll_2 (x0 : Nat) (z : (zS × Int32)) : Option ((zS × Int32) ⊕ zS) := sX3_clearAll_2b x0 z.1 z.2
def fX3_clearAll (σ : zS) (x0 : Nat) : Option zS :=
  (zloop (sX3_clearAll_2 x0) zfuel (σ, (zi 0))).bind fun o3 => some o3
def fX0_exists (σ : zS) (x0 : Nat) : Option (zS × Int32) :=
  (zgI 0 0 σ x0).bind fun v1 => (if v1 ≤ ((zi 0)) then zrZ σ ((zi 0)) else zrZ σ ((zi 1)))
def fX0_isOvertaking (σ : zS) (x0 : Nat) : Option (zS × Int32) :=
  (zck 0 σ x0 (fX0_exists σ x0 )).bind fun c1 => (if c1.2 = ((zi 0)) then zrZ c1.1 ((zi 0)) else (zgI 0 3 c1.1 x0).bind fun v2 => (if v2 = ((zi 0)) then zrZ c1.1 ((zi 0)) else zrZ c1.1 ((zi 1))))
def sX9_fillRow_2b (x0 : Nat) (x1 : Int32) (σ : zS) (u2 : Int32) : Option ((zS × Int32) ⊕ zS) :=
  (zlen σ x0).bind fun v1 => (if v1 ≤ u2 then some (.inr σ) else (zsI σ x0 u2 x1).bind fun σ2 => some (.inl (σ2, u2 + (zi 1))))
def sX9_fillRow_2 (x0 : Nat) (x1 : Int32) (z : (zS × Int32)) : Option ((zS × Int32) ⊕ zS) := sX9_fillRow_2b x0 x1 z.1 z.2
def fX9_fillRow (σ : zS) (x0 : Nat) (x1 : Int32) : Option zS :=
  (zloop (sX9_fillRow_2 x0 x1) zfuel (σ, (zi 0))).bind fun o4 => some o4
def fX0_start (σ : zS) (x0 : Nat) (x1 : Int32) (x2 : Int32) (x3 : Int32) : Option zS :=
  (zpI 0 0 σ x0 x1).bind fun σ1 => (zpI 0 1 σ1 x0 x2).bind fun σ2 => (zpI 0 2 σ2 x0 ((zi (-1)))).bind fun σ3 => (zpZ 0 3 σ3 x0 x3).bind fun σ4 => (zpZ 0 4 σ4 x0 ((zi 0))).bind fun σ5 => (zpI 0 5 σ5 x0 ((zi 0))).bind fun σ6 => (zpI 0 6 σ6 x0 ((zi 0))).bind fun σ7 => (zgR 0 7 σ7 x0).bind fun v8 => (fX9_fillRow σ7 v8 ((zi 0))).bind fun c9 => (zgR 0 8 c9 x0).bind fun v10 => (fX9_fillRow c9 v10 ((zi 0))).bind fun c11 => (zgR 0 9 c11 x0).bind fun v12 => (fX9_fillRow c11 v12 ((zi 0))).bind fun c13 => (zgR 0 10 c13 x0).bind fun v14 => (zck 3 c13 v14 (fX3_clearAll c13 v14 )).bind fun c15 => some c15
def fX9_copyRow (σ : zS) (x0 : Nat) (x1 : Nat) : Option zS :=
  (zlen σ x0).bind fun v1 => (zlen σ x1).bind fun v2 => (zcI σ x0 ((zi 0)) x1 ((zi 0)) (if v2 < v1 then v2 else v1)).bind fun σ3 => some σ3
def fX3_copyFrom (σ : zS) (x0 : Nat) (x1 : Nat) : Option zS :=
  (zgR 3 0 σ x1).bind fun v1 => (zgR 3 0 σ x0).bind fun v2 => (fX9_copyRow σ v1 v2).bind fun c3 => (zgR 3 1 c3 x1).bind fun v4 => (zgR 3 1 c3 x0).bind fun v5 => (fX9_copyRow c3 v4 v5).bind fun c6 => (zgR 3 2 c6 x1).bind fun v7 => (zgR 3 2 c6 x0).bind fun v8 => (fX9_copyRow c6 v7 v8).bind fun c9 => (zgR 3 3 c9 x1).bind fun v10 => (zgR 3 3 c9 x0).bind fun v11 => (fX9_copyRow c9 v10 v11).bind fun c12 => some c12
def fX0_copyFrom (σ : zS) (x0 : Nat) (x1 : Nat) : Option zS :=
  (zgI 0 0 σ x1).bind fun v1 => (zpI 0 0 σ x0 v1).bind fun σ2 => (zgI 0 0 σ2 x0).bind fun v3 => (if v3 = ((zi 0)) then some σ2 else (zgI 0 1 σ2 x1).bind fun v4 => (zpI 0 1 σ2 x0 v4).bind fun σ5 => (zgI 0 2 σ5 x1).bind fun v6 => (zpI 0 2 σ5 x0 v6).bind fun σ7 => (zgI 0 3 σ7 x1).bind fun v8 => (zpZ 0 3 σ7 x0 v8).bind fun σ9 => (zgI 0 4 σ9 x1).bind fun v10 => (zpZ 0 4 σ9 x0 v10).bind fun σ11 => (zgI 0 5 σ11 x1).bind fun v12 => (zpI 0 5 σ11 x0 v12).bind fun σ13 => (zgI 0 6 σ13 x1).bind fun v14 => (zpI 0 6 σ13 x0 v14).bind fun σ15 => (zgR 0 7 σ15 x1).bind fun v16 => (zgR 0 7 σ15 x0).bind fun v17 => (fX9_copyRow σ15 v16 v17).bind fun c18 => (zgR 0 8 c18 x1).bind fun v19 => (zgR 0 8 c18 x0).bind fun v20 => (fX9_copyRow c18 v19 v20).bind fun c21 => (zgR 0 9 c21 x1).bind fun v22 => (zgR 0 9 c21 x0).bind fun v23 => (fX9_copyRow c21 v22 v23).bind fun c24 => (zgR 0 10 c24 x0).bind fun v25 => (zgR 0 10 c24 x1).bind fun v26 => (zck 3 c24 v25 (fX3_copyFrom c24 v25 v26)).bind fun c27 => some c27)
def fJ6_bitCount_0f7a4 (σ : zS) (x0 : Int32) : Option (zS × Int32) :=
  some (σ, (((((((x0 - (((x0.toUInt32 >>> (((zi 1) : Int32).toUInt32 &&& Int32.toUInt32 31)).toInt32) &&& ((zi 1431655765)))) &&& ((zi 858993459))) + ((((x0 - (((x0.toUInt32 >>> (((zi 1) : Int32).toUInt32 &&& Int32.toUInt32 31)).toInt32) &&& ((zi 1431655765))) : Int32).toUInt32 >>> (((zi 2) : Int32).toUInt32 &&& Int32.toUInt32 31)).toInt32) &&& ((zi 858993459)))) + (((((x0 - (((x0.toUInt32 >>> (((zi 1) : Int32).toUInt32 &&& Int32.toUInt32 31)).toInt32) &&& ((zi 1431655765)))) &&& ((zi 858993459))) + ((((x0 - (((x0.toUInt32 >>> (((zi 1) : Int32).toUInt32 &&& Int32.toUInt32 31)).toInt32) &&& ((zi 1431655765))) : Int32).toUInt32 >>> (((zi 2) : Int32).toUInt32 &&& Int32.toUInt32 31)).toInt32) &&& ((zi 858993459))) : Int32).toUInt32 >>> (((zi 4) : Int32).toUInt32 &&& Int32.toUInt32 31)).toInt32)) &&& ((zi 252645135))) + (((((((x0 - (((x0.toUInt32 >>> (((zi 1) : Int32).toUInt32 &&& Int32.toUInt32 31)).toInt32) &&& ((zi 1431655765)))) &&& ((zi 858993459))) + ((((x0 - (((x0.toUInt32 >>> (((zi 1) : Int32).toUInt32 &&& Int32.toUInt32 31)).toInt32) &&& ((zi 1431655765))) : Int32).toUInt32 >>> (((zi 2) : Int32).toUInt32 &&& Int32.toUInt32 31)).toInt32) &&& ((zi 858993459)))) + (((((x0 - (((x0.toUInt32 >>> (((zi 1) : Int32).toUInt32 &&& Int32.toUInt32 31)).toInt32) &&& ((zi 1431655765)))) &&& ((zi 858993459))) + ((((x0 - (((x0.toUInt32 >>> (((zi 1) : Int32).toUInt32 &&& Int32.toUInt32 31)).toInt32) &&& ((zi 1431655765))) : Int32).toUInt32 >>> (((zi 2) : Int32).toUInt32 &&& Int32.toUInt32 31)).toInt32) &&& ((zi 858993459))) : Int32).toUInt32 >>> (((zi 4) : Int32).toUInt32 &&& Int32.toUInt32 31)).toInt32)) &&& ((zi 252645135)) : Int32).toUInt32 >>> (((zi 8) : Int32).toUInt32 &&& Int32.toUInt32 31)).toInt32)) + ((((((((x0 - (((x0.toUInt32 >>> (((zi 1) : Int32).toUInt32 &&& Int32.toUInt32 31)).toInt32) &&& ((zi 1431655765)))) &&& ((zi 858993459))) + ((((x0 - (((x0.toUInt32 >>> (((zi 1) : Int32).toUInt32 &&& Int32.toUInt32 31)).toInt32) &&& ((zi 1431655765))) : Int32).toUInt32 >>> (((zi 2) : Int32).toUInt32 &&& Int32.toUInt32 31)).toInt32) &&& ((zi 858993459)))) + (((((x0 - (((x0.toUInt32 >>> (((zi 1) : Int32).toUInt32 &&& Int32.toUInt32 31)).toInt32) &&& ((zi 1431655765)))) &&& ((zi 858993459))) + ((((x0 - (((x0.toUInt32 >>> (((zi 1) : Int32).toUInt32 &&& Int32.toUInt32 31)).toInt32) &&& ((zi 1431655765))) : Int32).toUInt32 >>> (((zi 2) : Int32).toUInt32 &&& Int32.toUInt32 31)).toInt32) &&& ((zi 858993459))) : Int32).toUInt32 >>> (((zi 4) : Int32).toUInt32 &&& Int32.toUInt32 31)).toInt32)) &&& ((zi 252645135))) + (((((((x0 - (((x0.toUInt32 >>> (((zi 1) : Int32).toUInt32 &&& Int32.toUInt32 31)).toInt32) &&& ((zi 1431655765)))) &&& ((zi 858993459))) + ((((x0 - (((x0.toUInt32 >>> (((zi 1) : Int32).toUInt32 &&& Int32.toUInt32 31)).toInt32) &&& ((zi 1431655765))) : Int32).toUInt32 >>> (((zi 2) : Int32).toUInt32 &&& Int32.toUInt32 31)).toInt32) &&& ((zi 858993459)))) + (((((x0 - (((x0.toUInt32 >>> (((zi 1) : Int32).toUInt32 &&& Int32.toUInt32 31)).toInt32) &&& ((zi 1431655765)))) &&& ((zi 858993459))) + ((((x0 - (((x0.toUInt32 >>> (((zi 1) : Int32).toUInt32 &&& Int32.toUInt32 31)).toInt32) &&& ((zi 1431655765))) : Int32).toUInt32 >>> (((zi 2) : Int32).toUInt32 &&& Int32.toUInt32 31)).toInt32) &&& ((zi 858993459))) : Int32).toUInt32 >>> (((zi 4) : Int32).toUInt32 &&& Int32.toUInt32 31)).toInt32)) &&& ((zi 252645135)) : Int32).toUInt32 >>> (((zi 8) : Int32).toUInt32 &&& Int32.toUInt32 31)).toInt32) : Int32).toUInt32 >>> (((zi 16) : Int32).toUInt32 &&& Int32.toUInt32 31)).toInt32)) &&& ((zi 63)))
def sX0_arrivedFrom_5b (x0 : Nat) (x2 : Int32) (σ : zS) (u3 : Int32) (u4 : Int32) : Option ((zS × Int32 × Int32) ⊕ (zS × Int32)) :=
  (if x2 ≤ u4 then some (.inr (σ, u3)) else (if ((zi 6)) ≤ u4 then some (.inr (σ, u3)) else (zgR 0 7 σ x0).bind fun v1 => (zaI σ v1 u4).bind fun v2 => (fJ6_bitCount_0f7a4 σ v2).bind fun c3 => some (.inl (c3.1, u3 + c3.2, u4 + (zi 1)))))
def sX0_arrivedFrom_5 (x0 : Nat) (x2 : Int32) (z : (zS × Int32 × Int32)) : Option ((zS × Int32 × Int32) ⊕ (zS × Int32)) := sX0_arrivedFrom_5b x0 x2 z.1 z.2.1 z.2.2
def fX0_arrivedFrom (σ : zS) (x0 : Nat) (x1 : Int32) (x2 : Int32) : Option (zS × Int32) :=
  (zloop (sX0_arrivedFrom_5 x0 x2) zfuel (σ, (zi 0), x1)).bind fun o6 => some (o6.1, o6.2)
def fX0_hasPut (σ : zS) (x0 : Nat) (x1 : Int32) : Option (zS × Int32) :=
  (zgI 0 5 σ x0).bind fun v1 => (if ((v1 >>> (x1 &&& 31)) &&& ((zi 1))) = ((zi 1)) then zrZ σ ((zi 1)) else zrZ σ ((zi 0)))
def fX0_isOnlyBehind (σ : zS) (x0 : Nat) (x1 : Int32) (x2 : Int32) : Option (zS × Int32) :=
  (zgR 0 7 σ x0).bind fun v1 => (zaI σ v1 x1).bind fun v2 => (if v2 = ((zi 0)) then zrZ σ ((zi 0)) else (zgR 0 7 σ x0).bind fun v3 => (zaI σ v3 x1).bind fun v4 => (if ((v4 >>> (x2 &&& 31)) &&& ((zi 1))) = ((zi 0)) then zrZ σ ((zi 1)) else zrZ σ ((zi 0))))
def fX3_isList (σ : zS) (x0 : Int32) : Option (zS × Int32) :=
  (if x0 < ((zi 0)) then zrZ σ ((zi 0)) else (if ((zi 30)) ≤ x0 then zrZ σ ((zi 0)) else zrZ σ ((zi 1))))
def fX3_isRecord (σ : zS) (x0 : Int32) : Option (zS × Int32) :=
  (if x0 < ((zi 0)) then zrZ σ ((zi 0)) else (if ((zi 800)) ≤ x0 then zrZ σ ((zi 0)) else zrZ σ ((zi 1))))
def jX3_add_46 (σ : zS) (x0 : Nat) (x1 : Int32) (x2 : Int32)  : Option zS :=
  (zgR 3 0 σ x0).bind fun v8 => (zsI σ v8 x2 ((zi (-1)))).bind fun σ9 => (zgR 3 2 σ9 x0).bind fun v10 => (zsI σ9 v10 x1 x2).bind fun σ11 => (zgR 3 3 σ11 x0).bind fun v12 => (zaI σ11 v12 x1).bind fun v13 => (zsI σ11 v12 x1 (v13 + ((zi 1)))).bind fun σ14 => some σ14
def fX3_add (σ : zS) (x0 : Nat) (x1 : Int32) (x2 : Int32) : Option zS :=
  (fX3_isList σ x1).bind fun c1 => (if c1.2 = ((zi 0)) then some c1.1 else (fX3_isRecord c1.1 x2).bind fun c2 => (if c2.2 = ((zi 0)) then some c2.1 else (zgR 3 2 c2.1 x0).bind fun v3 => (zaI c2.1 v3 x1).bind fun v4 => (fX3_isRecord c2.1 v4).bind fun c5 => (if c5.2 = ((zi 0)) then (zgR 3 1 c5.1 x0).bind fun v6 => (zsI c5.1 v6 x1 x2).bind fun σ7 => jX3_add_46 σ7 x0 x1 x2 else (zgR 3 0 c5.1 x0).bind fun v15 => (zsI c5.1 v15 v4 x2).bind fun σ16 => jX3_add_46 σ16 x0 x1 x2)))
def fX0_keep (σ : zS) (x0 : Nat) (x1 : Int32) (x2 : Int32) : Option zS :=
  (zgR 0 10 σ x0).bind fun v1 => (zck 3 σ v1 (fX3_add σ v1 x1 x2)).bind fun c2 => (zgI 0 6 c2 x0).bind fun v3 => (zpI 0 6 c2 x0 (v3 + ((zi 1)))).bind fun σ4 => some σ4
def fX9_channel (σ : zS) (x0 : Int32) (x1 : Int32) : Option (zS × Int32) :=
  some (σ, (((zi 4)) * x0) + x1)
def jX3_moveAll_70 (σ : zS) (x0 : Nat) (x1 : Int32) (x2 : Int32)  : Option zS :=
  (zgR 3 2 σ x0).bind fun v12 => (zgR 3 2 σ x0).bind fun v13 => (zaI σ v13 x1).bind fun v14 => (zsI σ v12 x2 v14).bind fun σ15 => (zgR 3 3 σ15 x0).bind fun v16 => (zaI σ15 v16 x2).bind fun v17 => (zgR 3 3 σ15 x0).bind fun v18 => (zaI σ15 v18 x1).bind fun v19 => (zsI σ15 v16 x2 (v17 + v19)).bind fun σ20 => (zck 3 σ20 x0 (fX3_clear σ20 x0 x1)).bind fun c21 => some c21
def fX3_moveAll (σ : zS) (x0 : Nat) (x1 : Int32) (x2 : Int32) : Option zS :=
  (fX3_isList σ x1).bind fun c1 => (if c1.2 = ((zi 0)) then some c1.1 else (fX3_isList c1.1 x2).bind fun c2 => (if c2.2 = ((zi 0)) then some c2.1 else (if x1 = x2 then some c2.1 else (zgR 3 3 c2.1 x0).bind fun v3 => (zaI c2.1 v3 x1).bind fun v4 => (if v4 = ((zi 0)) then some c2.1 else (zgR 3 2 c2.1 x0).bind fun v5 => (zaI c2.1 v5 x2).bind fun v6 => (fX3_isRecord c2.1 v6).bind fun c7 => (if c7.2 = ((zi 0)) then (zgR 3 1 c7.1 x0).bind fun v8 => (zgR 3 1 c7.1 x0).bind fun v9 => (zaI c7.1 v9 x1).bind fun v10 => (zsI c7.1 v8 x2 v10).bind fun σ11 => jX3_moveAll_70 σ11 x0 x1 x2 else (zgR 3 0 c7.1 x0).bind fun v22 => (zgR 3 1 c7.1 x0).bind fun v23 => (zaI c7.1 v23 x1).bind fun v24 => (zsI c7.1 v22 v6 v24).bind fun σ25 => jX3_moveAll_70 σ25 x0 x1 x2)))))
def fX3_sizeOf (σ : zS) (x0 : Nat) (x1 : Int32) : Option (zS × Int32) :=
  (fX3_isList σ x1).bind fun c1 => (if c1.2 = ((zi 0)) then some (c1.1, (zi 0)) else (zgR 3 3 c1.1 x0).bind fun v2 => (zaI c1.1 v2 x1).bind fun v3 => some (c1.1, v3))
def fX3_firstOf (σ : zS) (x0 : Nat) (x1 : Int32) : Option (zS × Int32) :=
  (fX3_isList σ x1).bind fun c1 => (if c1.2 = ((zi 0)) then some (c1.1, (zi (-1))) else (zgR 3 1 c1.1 x0).bind fun v2 => (zaI c1.1 v2 x1).bind fun v3 => some (c1.1, v3))
def fX3_takeFirst (σ : zS) (x0 : Nat) (x1 : Int32) : Option (zS × Int32) :=
  (zck 3 σ x0 (fX3_firstOf σ x0 x1)).bind fun c1 => (fX3_isList c1.1 x1).bind fun c2 => (if c2.2 = ((zi 0)) then some (c2.1, (zi (-1))) else (fX3_isRecord c2.1 c1.2).bind fun c3 => (if c3.2 = ((zi 0)) then some (c3.1, (zi (-1))) else (zgR 3 1 c3.1 x0).bind fun v4 => (zgR 3 0 c3.1 x0).bind fun v5 => (zaI c3.1 v5 c1.2).bind fun v6 => (zsI c3.1 v4 x1 v6).bind fun σ7 => (zgR 3 3 σ7 x0).bind fun v8 => (zaI σ7 v8 x1).bind fun v9 => (zsI σ7 v8 x1 (v9 - ((zi 1)))).bind fun σ10 => (zgR 3 3 σ10 x0).bind fun v11 => (zaI σ10 v11 x1).bind fun v12 => (if v12 = ((zi 0)) then (zck 3 σ10 x0 (fX3_clear σ10 x0 x1)).bind fun c13 => some (c13, c1.2) else some (σ10, c1.2))))
def fX7_keyOf (σ : zS) (x0 : Nat) (x1 : Int32) : Option (zS × Int32) :=
  (if x1 < ((zi 0)) then some (σ, (zi 0)) else (if ((zi 800)) ≤ x1 then some (σ, (zi 0)) else (zgR 7 8 σ x0).bind fun v1 => (zaI σ v1 x1).bind fun v2 => some (σ, v2)))
def fX9_ownerOf (σ : zS) (x0 : Int32) (x1 : Int32) : Option (zS × Int32) :=
  some (σ, ((x0 - x0 / ((zi 8)) * ((zi 8))) * x1) / ((zi 8)))
def sX0_spread_15b (x0 : Nat) (x1 : Nat) (x2 : Int32) (x3 : Int32) (x4 : Int32) (σ : zS) (u5 : Int32) : Option ((zS × Int32) ⊕ zS) :=
  (if x2 ≤ u5 then some (.inr σ) else (zgR 0 10 σ x0).bind fun v2 => (fX9_channel σ u5 x4).bind fun c3 => (zck 3 c3.1 v2 (fX3_moveAll c3.1 v2 c3.2 ((zi 24)))).bind fun c4 => some (.inl (c4, u5 + (zi 1))))
def sX0_spread_15 (x0 : Nat) (x1 : Nat) (x2 : Int32) (x3 : Int32) (x4 : Int32) (z : (zS × Int32)) : Option ((zS × Int32) ⊕ zS) := sX0_spread_15b x0 x1 x2 x3 x4 z.1 z.2
def sX0_spread_54b (x0 : Nat) (x1 : Nat) (x2 : Int32) (x3 : Int32) (x4 : Int32) (σ : zS) (u5 : Int32) : Option ((zS × Int32) ⊕ zS) :=
  (if u5 ≤ ((zi 0)) then some (.inr σ) else (zgR 0 10 σ x0).bind fun v9 => (zck 3 σ v9 (fX3_takeFirst σ v9 ((zi 24)))).bind fun c10 => (zgR 0 10 c10.1 x0).bind fun v11 => (zck 7 c10.1 x1 (fX7_keyOf c10.1 x1 c10.2)).bind fun c12 => (fX9_ownerOf c12.1 c12.2 x3).bind fun c13 => (fX9_channel c13.1 c13.2 x4).bind fun c14 => (zck 3 c14.1 v11 (fX3_add c14.1 v11 c14.2 c10.2)).bind fun c15 => some (.inl (c15, u5 + (zi (-1)))))
def sX0_spread_54 (x0 : Nat) (x1 : Nat) (x2 : Int32) (x3 : Int32) (x4 : Int32) (z : (zS × Int32)) : Option ((zS × Int32) ⊕ zS) := sX0_spread_54b x0 x1 x2 x3 x4 z.1 z.2
def sX0_spread_3b (x0 : Nat) (x1 : Nat) (x2 : Int32) (x3 : Int32) (σ : zS) (u4 : Int32) : Option ((zS × Int32) ⊕ zS) :=
  (zgI 7 0 σ x1).bind fun v1 => (if v1 ≤ u4 then some (.inr σ) else (zloop (sX0_spread_15 x0 x1 x2 x3 u4) zfuel (σ, (zi 0))).bind fun o6 => (zgR 0 10 o6 x0).bind fun v7 => (zck 3 o6 v7 (fX3_sizeOf o6 v7 ((zi 24)))).bind fun c8 => (zloop (sX0_spread_54 x0 x1 x2 x3 u4) zfuel (c8.1, c8.2)).bind fun o17 => some (.inl (o17, u4 + (zi 1))))
def sX0_spread_3 (x0 : Nat) (x1 : Nat) (x2 : Int32) (x3 : Int32) (z : (zS × Int32)) : Option ((zS × Int32) ⊕ zS) := sX0_spread_3b x0 x1 x2 x3 z.1 z.2
def sX0_spread_121b (x0 : Nat) (x1 : Nat) (x2 : Int32) (x3 : Int32) (x4 : Int32) (σ : zS) (u5 : Int32) : Option ((zS × Int32) ⊕ zS) :=
  (if x2 ≤ u5 then some (.inr σ) else (zgR 0 10 σ x0).bind fun v21 => (fX9_channel σ (((zi 4)) + x4) u5).bind fun c22 => (zck 3 c22.1 v21 (fX3_moveAll c22.1 v21 c22.2 ((zi 24)))).bind fun c23 => some (.inl (c23, u5 + (zi 1))))
def sX0_spread_121 (x0 : Nat) (x1 : Nat) (x2 : Int32) (x3 : Int32) (x4 : Int32) (z : (zS × Int32)) : Option ((zS × Int32) ⊕ zS) := sX0_spread_121b x0 x1 x2 x3 x4 z.1 z.2
def sX0_spread_162b (x0 : Nat) (x1 : Nat) (x2 : Int32) (x3 : Int32) (x4 : Int32) (σ : zS) (u5 : Int32) : Option ((zS × Int32) ⊕ zS) :=
  (if u5 ≤ ((zi 0)) then some (.inr σ) else (zgR 0 10 σ x0).bind fun v28 => (zck 3 σ v28 (fX3_takeFirst σ v28 ((zi 24)))).bind fun c29 => (zgR 0 10 c29.1 x0).bind fun v30 => (zck 7 c29.1 x1 (fX7_keyOf c29.1 x1 c29.2)).bind fun c31 => (fX9_ownerOf c31.1 c31.2 x3).bind fun c32 => (fX9_channel c32.1 (((zi 4)) + x4) c32.2).bind fun c33 => (zck 3 c33.1 v30 (fX3_add c33.1 v30 c33.2 c29.2)).bind fun c34 => some (.inl (c34, u5 + (zi (-1)))))
def sX0_spread_162 (x0 : Nat) (x1 : Nat) (x2 : Int32) (x3 : Int32) (x4 : Int32) (z : (zS × Int32)) : Option ((zS × Int32) ⊕ zS) := sX0_spread_162b x0 x1 x2 x3 x4 z.1 z.2
def sX0_spread_109b (x0 : Nat) (x1 : Nat) (x2 : Int32) (x3 : Int32) (σ : zS) (u4 : Int32) : Option ((zS × Int32) ⊕ zS) :=
  (zgI 7 1 σ x1).bind fun v20 => (if v20 ≤ u4 then some (.inr σ) else (zloop (sX0_spread_121 x0 x1 x2 x3 u4) zfuel (σ, (zi 0))).bind fun o25 => (zgR 0 10 o25 x0).bind fun v26 => (zck 3 o25 v26 (fX3_sizeOf o25 v26 ((zi 24)))).bind fun c27 => (zloop (sX0_spread_162 x0 x1 x2 x3 u4) zfuel (c27.1, c27.2)).bind fun o36 => some (.inl (o36, u4 + (zi 1))))
def sX0_spread_109 (x0 : Nat) (x1 : Nat) (x2 : Int32) (x3 : Int32) (z : (zS × Int32)) : Option ((zS × Int32) ⊕ zS) := sX0_spread_109b x0 x1 x2 x3 z.1 z.2
def fX0_spread (σ : zS) (x0 : Nat) (x1 : Nat) (x2 : Int32) (x3 : Int32) : Option zS :=
  (zloop (sX0_spread_3 x0 x1 x2 x3) zfuel (σ, (zi 0))).bind fun o19 => (zloop (sX0_spread_109 x0 x1 x2 x3) zfuel (o19, (zi 0))).bind fun o38 => some o38
def fX7_chosen (σ : zS) (x0 : Nat) (x1 : Nat) : Option (zS × Int32) :=
  (zwI 0 x1).bind fun v1 => (if v1 < ((zi 0)) then (zwI 1 x1).bind fun v2 => some (σ, v2) else (zgR 7 7 σ x0).bind fun v3 => (zlen σ v3).bind fun v4 => (if v4 ≤ v1 then (zwI 1 x1).bind fun v5 => some (σ, v5) else (zgR 7 7 σ x0).bind fun v6 => (zaI σ v6 v1).bind fun v7 => (if v7 = ((zi (-1))) then (zwI 1 x1).bind fun v10 => some (σ, v10) else (zgR 7 7 σ x0).bind fun v8 => (zaI σ v8 v1).bind fun v9 => some (σ, v9))))
def sX1_showLatest_23b (x0 : Nat) (σ : zS) (u1 : Int32) : Option ((zS × Int32) ⊕ zS) :=
  (zgR 1 17 σ x0).bind fun v5 => (zgI 7 1 σ v5).bind fun v6 => (if v6 ≤ u1 then some (.inr σ) else (zgR 1 14 σ x0).bind fun v7 => (zck 3 σ v7 (fX3_moveAll σ v7 (((zi 26)) + u1) (((zi 28)) + u1))).bind fun c8 => some (.inl (c8, u1 + (zi 1))))
def sX1_showLatest_23 (x0 : Nat) (z : (zS × Int32)) : Option ((zS × Int32) ⊕ zS) := sX1_showLatest_23b x0 z.1 z.2
def fX1_showLatest (σ : zS) (x0 : Nat) : Option zS :=
  (zgR 1 16 σ x0).bind fun v1 => (zck 0 σ v1 (fX0_exists σ v1 )).bind fun c2 => (if c2.2 = ((zi 0)) then some c2.1 else (zgR 1 16 c2.1 x0).bind fun v3 => (zgI 0 4 c2.1 v3).bind fun v4 => (if v4 = ((zi 0)) then (zloop (sX1_showLatest_23 x0) zfuel (c2.1, (zi 0))).bind fun o10 => (zgR 1 16 o10 x0).bind fun v11 => (zpZ 0 4 o10 v11 ((zi 1))).bind fun σ12 => some σ12 else some c2.1))
def fX3_behind (σ : zS) (x0 : Nat) (x1 : Int32) : Option (zS × Int32) :=
  (fX3_isRecord σ x1).bind fun c1 => (if c1.2 = ((zi 0)) then some (c1.1, (zi (-1))) else (zgR 3 0 c1.1 x0).bind fun v2 => (zaI c1.1 v2 x1).bind fun v3 => some (c1.1, v3))
def sX1_goBackToLatest_60b (x0 : Nat) (x1 : Int32) (σ : zS) (u2 : Int32) (u3 : Int32) : Option ((zS × Int32 × Int32) ⊕ zS) :=
  (if u3 ≤ ((zi 0)) then some (.inr σ) else (zgR 1 14 σ x0).bind fun v15 => (zck 3 σ v15 (fX3_add σ v15 x1 u2)).bind fun c16 => (zgR 1 16 c16 x0).bind fun v17 => (zgR 0 10 c16 v17).bind fun v18 => (zck 3 c16 v18 (fX3_behind c16 v18 u2)).bind fun c19 => some (.inl (c19.1, c19.2, u3 + (zi (-1)))))
def sX1_goBackToLatest_60 (x0 : Nat) (x1 : Int32) (z : (zS × Int32 × Int32)) : Option ((zS × Int32 × Int32) ⊕ zS) := sX1_goBackToLatest_60b x0 x1 z.1 z.2.1 z.2.2
def sX1_goBackToLatest_30b (x0 : Nat) (σ : zS) (u1 : Int32) : Option ((zS × Int32) ⊕ zS) :=
  (if ((zi 24)) ≤ u1 then some (.inr σ) else (zgR 1 16 σ x0).bind fun v9 => (zgR 0 10 σ v9).bind fun v10 => (zck 3 σ v10 (fX3_firstOf σ v10 u1)).bind fun c11 => (zgR 1 16 c11.1 x0).bind fun v12 => (zgR 0 10 c11.1 v12).bind fun v13 => (zck 3 c11.1 v13 (fX3_sizeOf c11.1 v13 u1)).bind fun c14 => (zloop (sX1_goBackToLatest_60 x0 u1) zfuel (c14.1, c11.2, c14.2)).bind fun o21 => some (.inl (o21, u1 + (zi 1))))
def sX1_goBackToLatest_30 (x0 : Nat) (z : (zS × Int32)) : Option ((zS × Int32) ⊕ zS) := sX1_goBackToLatest_30b x0 z.1 z.2
def fX1_goBackToLatest (σ : zS) (x0 : Nat) : Option zS :=
  (zgR 1 16 σ x0).bind fun v1 => (zgR 0 8 σ v1).bind fun v2 => (zgR 1 10 σ x0).bind fun v3 => (fX9_copyRow σ v2 v3).bind fun c4 => (zgR 1 16 c4 x0).bind fun v5 => (zgR 0 9 c4 v5).bind fun v6 => (zgR 1 11 c4 x0).bind fun v7 => (fX9_copyRow c4 v6 v7).bind fun c8 => (zloop (sX1_goBackToLatest_30 x0) zfuel (c8, (zi 0))).bind fun o23 => some o23
def sX1_recover_6b (x0 : Nat) (σ : zS) (u1 : Int32) : Option ((zS × Int32) ⊕ zS) :=
  (if ((zi 28)) ≤ u1 then some (.inr σ) else (zgR 1 14 σ x0).bind fun v2 => (zck 3 σ v2 (fX3_clear σ v2 u1)).bind fun c3 => some (.inl (c3, u1 + (zi 1))))
def sX1_recover_6 (x0 : Nat) (z : (zS × Int32)) : Option ((zS × Int32) ⊕ zS) := sX1_recover_6b x0 z.1 z.2
def fX1_recover (σ : zS) (x0 : Nat) : Option zS :=
  (zck 1 σ x0 (fX1_showLatest σ x0 )).bind fun c1 => (zloop (sX1_recover_6 x0) zfuel (c1, (zi 0))).bind fun o5 => (zgR 1 15 o5 x0).bind fun v6 => (zpI 0 0 o5 v6 ((zi 0))).bind fun σ7 => (zgR 1 19 σ7 x0).bind fun v8 => (fX9_fillRow σ7 v8 ((zi (-1)))).bind fun c9 => (zgR 1 13 c9 x0).bind fun v10 => (fX9_fillRow c9 v10 ((zi 0))).bind fun c11 => (zgR 1 18 c11 x0).bind fun v12 => (fX9_fillRow c11 v12 ((zi 0))).bind fun c13 => (zgR 1 12 c13 x0).bind fun v14 => (fX9_fillRow c13 v14 ((zi 0))).bind fun c15 => (zgI 1 7 c15 x0).bind fun v16 => (zpI 1 7 c15 x0 (v16 + ((zi 1)))).bind fun σ17 => (zgR 1 16 σ17 x0).bind fun v18 => (zck 0 σ17 v18 (fX0_exists σ17 v18 )).bind fun c19 => (if c19.2 = ((zi 0)) then (zgR 1 10 c19.1 x0).bind fun v20 => (fX9_fillRow c19.1 v20 ((zi 0))).bind fun c21 => (zgR 1 11 c21 x0).bind fun v22 => (fX9_fillRow c21 v22 ((zi 0))).bind fun c23 => some c23 else (zck 1 c19.1 x0 (fX1_goBackToLatest c19.1 x0 )).bind fun c24 => some c24)
def jX1_start_67 (σ : zS) (x0 : Nat) (y0 : Int32) (y1 : Nat) : Option zS :=
  (zpZ 1 3 σ y1 y0).bind fun σ13 => (zpI 1 4 σ13 x0 ((zi 0))).bind fun σ14 => (zpI 1 5 σ14 x0 ((zi 0))).bind fun σ15 => (zpI 1 6 σ15 x0 ((zi 0))).bind fun σ16 => (zpI 1 8 σ16 x0 ((zi 0))).bind fun σ17 => (zgR 1 17 σ17 x0).bind fun v18 => (zgR 7 4 σ17 v18).bind fun v19 => (zgR 1 9 σ17 x0).bind fun v20 => (fX9_copyRow σ17 v19 v20).bind fun c21 => (zgR 1 16 c21 x0).bind fun v22 => (zpI 0 0 c21 v22 ((zi 0))).bind fun σ23 => (zgR 1 14 σ23 x0).bind fun v24 => (zck 3 σ23 v24 (fX3_clearAll σ23 v24 )).bind fun c25 => (zck 1 c25 x0 (fX1_recover c25 x0 )).bind fun c26 => (zpI 1 7 c26 x0 ((zi 0))).bind fun σ27 => some σ27
def fX1_start (σ : zS) (x0 : Nat) (x1 : Nat) : Option zS :=
  (zpR 1 17 σ x0 (some x1)).bind fun σ1 => (zgR 1 17 σ1 x0).bind fun v2 => (zck 7 σ1 v2 (fX7_chosen σ1 v2 4)).bind fun c3 => (zpI 1 0 c3.1 x0 c3.2).bind fun σ4 => (zgR 1 17 σ4 x0).bind fun v5 => (zck 7 σ4 v5 (fX7_chosen σ4 v5 6)).bind fun c6 => (zpI 1 1 c6.1 x0 c6.2).bind fun σ7 => (zgR 1 17 σ7 x0).bind fun v8 => (zck 7 σ7 v8 (fX7_chosen σ7 v8 7)).bind fun c9 => (zpI 1 2 c9.1 x0 c9.2).bind fun σ10 => (zgR 1 17 σ10 x0).bind fun v11 => (zck 7 σ10 v11 (fX7_chosen σ10 v11 8)).bind fun c12 => (if c12.2 = ((zi 1)) then jX1_start_67 c12.1 x0 ((zi 1)) x0 else jX1_start_67 c12.1 x0 ((zi 0)) x0)
def fX1_copyFrom (σ : zS) (x0 : Nat) (x1 : Nat) : Option zS :=
  (zgR 1 17 σ x1).bind fun v1 => (zpR 1 17 σ x0 (some v1)).bind fun σ2 => (zgI 1 0 σ2 x1).bind fun v3 => (zpI 1 0 σ2 x0 v3).bind fun σ4 => (zgI 1 1 σ4 x1).bind fun v5 => (zpI 1 1 σ4 x0 v5).bind fun σ6 => (zgI 1 2 σ6 x1).bind fun v7 => (zpI 1 2 σ6 x0 v7).bind fun σ8 => (zgI 1 3 σ8 x1).bind fun v9 => (zpZ 1 3 σ8 x0 v9).bind fun σ10 => (zgI 1 4 σ10 x1).bind fun v11 => (zpI 1 4 σ10 x0 v11).bind fun σ12 => (zgI 1 5 σ12 x1).bind fun v13 => (zpI 1 5 σ12 x0 v13).bind fun σ14 => (zgI 1 6 σ14 x1).bind fun v15 => (zpI 1 6 σ14 x0 v15).bind fun σ16 => (zgI 1 7 σ16 x1).bind fun v17 => (zpI 1 7 σ16 x0 v17).bind fun σ18 => (zgI 1 8 σ18 x1).bind fun v19 => (zpI 1 8 σ18 x0 v19).bind fun σ20 => (zgR 1 9 σ20 x1).bind fun v21 => (zgR 1 9 σ20 x0).bind fun v22 => (fX9_copyRow σ20 v21 v22).bind fun c23 => (zgR 1 10 c23 x1).bind fun v24 => (zgR 1 10 c23 x0).bind fun v25 => (fX9_copyRow c23 v24 v25).bind fun c26 => (zgR 1 11 c26 x1).bind fun v27 => (zgR 1 11 c26 x0).bind fun v28 => (fX9_copyRow c26 v27 v28).bind fun c29 => (zgR 1 12 c29 x1).bind fun v30 => (zgR 1 12 c29 x0).bind fun v31 => (fX9_copyRow c29 v30 v31).bind fun c32 => (zgR 1 13 c32 x1).bind fun v33 => (zgR 1 13 c32 x0).bind fun v34 => (fX9_copyRow c32 v33 v34).bind fun c35 => (zgR 1 18 c35 x1).bind fun v36 => (zgR 1 18 c35 x0).bind fun v37 => (fX9_copyRow c35 v36 v37).bind fun c38 => (zgR 1 19 c38 x1).bind fun v39 => (zgR 1 19 c38 x0).bind fun v40 => (fX9_copyRow c38 v39 v40).bind fun c41 => (zgR 1 14 c41 x0).bind fun v42 => (zgR 1 14 c41 x1).bind fun v43 => (zck 3 c41 v42 (fX3_copyFrom c41 v42 v43)).bind fun c44 => (zgR 1 15 c44 x0).bind fun v45 => (zgR 1 15 c44 x1).bind fun v46 => (zck 0 c44 v45 (fX0_copyFrom c44 v45 v46)).bind fun c47 => (zgR 1 16 c47 x0).bind fun v48 => (zgR 1 16 c47 x1).bind fun v49 => (zck 0 c47 v48 (fX0_copyFrom c47 v48 v49)).bind fun c50 => some c50
def fX1_startCheckpoint (σ : zS) (x0 : Nat) (x1 : Int32) : Option zS :=
  (zgI 1 5 σ x0).bind fun v1 => (zpI 1 5 σ x0 (v1 + ((zi 1)))).bind fun σ2 => (zgR 1 15 σ2 x0).bind fun v3 => (zgI 1 5 σ2 x0).bind fun v4 => (zgI 1 4 σ2 x0).bind fun v5 => (zck 0 σ2 v3 (fX0_start σ2 v3 v4 v5 x1)).bind fun c6 => some c6
def sX1_putBarriers_75b (x0 : Nat) (x1 : Int32) (σ : zS) (u2 : Int32) : Option ((zS × Int32) ⊕ zS) :=
  (zgI 1 0 σ x0).bind fun v18 => (if v18 ≤ u2 then some (.inr σ) else (fX9_channel σ u2 x1).bind fun c19 => (zgR 1 19 c19.1 x0).bind fun v20 => (zgR 1 14 c19.1 x0).bind fun v21 => (zck 3 c19.1 v21 (fX3_sizeOf c19.1 v21 c19.2)).bind fun c22 => (zsI c22.1 v20 c19.2 c22.2).bind fun σ23 => some (.inl (σ23, u2 + (zi 1))))
def sX1_putBarriers_75 (x0 : Nat) (x1 : Int32) (z : (zS × Int32)) : Option ((zS × Int32) ⊕ zS) := sX1_putBarriers_75b x0 x1 z.1 z.2
def fX1_putBarriers (σ : zS) (x0 : Nat) (x1 : Int32) : Option zS :=
  (zgR 1 15 σ x0).bind fun v1 => (zck 0 σ v1 (fX0_exists σ v1 )).bind fun c2 => (if c2.2 = ((zi 0)) then some c2.1 else (zgR 1 15 c2.1 x0).bind fun v3 => (zck 0 c2.1 v3 (fX0_hasPut c2.1 v3 x1)).bind fun c4 => (if c4.2 = ((zi 0)) then (zgI 1 4 c4.1 x0).bind fun v5 => (zgR 1 15 c4.1 x0).bind fun v6 => (zgI 0 1 c4.1 v6).bind fun v7 => (zgR 1 9 c4.1 x0).bind fun v8 => (zaI c4.1 v8 x1).bind fun v9 => (if v9 ≤ (v5 - v7) then (zgR 1 15 c4.1 x0).bind fun v10 => (zgI 0 5 c4.1 v10).bind fun v11 => (zpI 0 5 c4.1 v10 (v11 ||| (((zi 1)) <<< (x1 &&& 31)))).bind fun σ12 => (zgR 1 15 σ12 x0).bind fun v13 => (zgR 0 8 σ12 v13).bind fun v14 => (zgR 1 10 σ12 x0).bind fun v15 => (zaI σ12 v15 x1).bind fun v16 => (zsI σ12 v14 x1 v16).bind fun σ17 => (zloop (sX1_putBarriers_75 x0 x1) zfuel (σ17, (zi 0))).bind fun o25 => some o25 else some c4.1) else some c4.1))
def fX9_numberOf (σ : zS) (x0 : Int32) (x1 : Int32) : Option (zS × Int32) :=
  some (σ, (((zi 200)) * x0) + x1)
def fX1_sendRecord (σ : zS) (x0 : Nat) (x1 : Int32) : Option zS :=
  (zgR 1 10 σ x0).bind fun v1 => (zaI σ v1 x1).bind fun v2 => (zgR 1 17 σ x0).bind fun v3 => (zgR 7 2 σ v3).bind fun v4 => (zaI σ v4 x1).bind fun v5 => (if v2 < v5 then (zgR 1 10 σ x0).bind fun v6 => (zaI σ v6 x1).bind fun v7 => (fX9_numberOf σ x1 v7).bind fun c8 => (zgR 1 17 c8.1 x0).bind fun v9 => (zck 7 c8.1 v9 (fX7_keyOf c8.1 v9 c8.2)).bind fun c10 => (zgI 1 0 c10.1 x0).bind fun v11 => (fX9_ownerOf c10.1 c10.2 v11).bind fun c12 => (fX9_channel c12.1 c12.2 x1).bind fun c13 => (zgR 1 14 c13.1 x0).bind fun v14 => (zck 3 c13.1 v14 (fX3_sizeOf c13.1 v14 c13.2)).bind fun c15 => (zgI 1 1 c15.1 x0).bind fun v16 => (if v16 ≤ c15.2 then some c15.1 else (zgR 1 14 c15.1 x0).bind fun v17 => (zck 3 c15.1 v17 (fX3_add c15.1 v17 c13.2 c8.2)).bind fun c18 => (zgR 1 10 c18 x0).bind fun v19 => (zaI c18 v19 x1).bind fun v20 => (zsI c18 v19 x1 (v20 + ((zi 1)))).bind fun σ21 => (zgI 1 8 σ21 x0).bind fun v22 => (zpI 1 8 σ21 x0 (v22 + ((zi 1)))).bind fun σ23 => some σ23) else some σ)
def fX1_sendersTo (σ : zS) (x0 : Nat) (x1 : Int32) : Option (zS × Int32) :=
  (if ((zi 4)) ≤ x1 then (zgI 1 0 σ x0).bind fun v1 => some (σ, v1) else (zgR 1 17 σ x0).bind fun v2 => (zgI 7 0 σ v2).bind fun v3 => some (σ, v3))
def jX1_cut_60_L27 (σ : zS) (x0 : Nat) (x1 : Int32) (x2 : Int32)  : Option ((zS × Int32) ⊕ zS) :=
  some (.inl (σ, x2 + (zi 1)))
def sX1_cut_27b (x0 : Nat) (x1 : Int32) (σ : zS) (u2 : Int32) : Option ((zS × Int32) ⊕ zS) :=
  (if ((zi 16)) ≤ u2 then some (.inr σ) else (zgI 1 0 σ x0).bind fun v1 => (fX9_ownerOf σ u2 v1).bind fun c2 => (if c2.2 = x1 then (zgR 1 15 c2.1 x0).bind fun v3 => (zgR 0 9 c2.1 v3).bind fun v4 => (zgR 1 11 c2.1 x0).bind fun v5 => (zaI c2.1 v5 u2).bind fun v6 => (zsI c2.1 v4 u2 v6).bind fun σ7 => jX1_cut_60_L27 σ7 x0 x1 u2 else jX1_cut_60_L27 c2.1 x0 x1 u2))
def sX1_cut_27 (x0 : Nat) (x1 : Int32) (z : (zS × Int32)) : Option ((zS × Int32) ⊕ zS) := sX1_cut_27b x0 x1 z.1 z.2
def sX1_cut_68b (x0 : Nat) (x1 : Int32) (σ : zS) (u2 : Int32) : Option ((zS × Int32) ⊕ zS) :=
  (zgR 1 17 σ x0).bind fun v11 => (zgI 7 1 σ v11).bind fun v12 => (if v12 ≤ u2 then some (.inr σ) else (fX9_channel σ (((zi 4)) + u2) x1).bind fun c13 => (zgR 1 19 c13.1 x0).bind fun v14 => (zgR 1 14 c13.1 x0).bind fun v15 => (zck 3 c13.1 v15 (fX3_sizeOf c13.1 v15 c13.2)).bind fun c16 => (zsI c16.1 v14 c13.2 c16.2).bind fun σ17 => some (.inl (σ17, u2 + (zi 1))))
def sX1_cut_68 (x0 : Nat) (x1 : Int32) (z : (zS × Int32)) : Option ((zS × Int32) ⊕ zS) := sX1_cut_68b x0 x1 z.1 z.2
def fX1_cut (σ : zS) (x0 : Nat) (x1 : Int32) : Option zS :=
  (if x1 < ((zi 4)) then (zloop (sX1_cut_27 x0 x1) zfuel (σ, (zi 0))).bind fun o10 => (zloop (sX1_cut_68 x0 x1) zfuel (o10, (zi 0))).bind fun o19 => some o19 else (zgR 1 14 σ x0).bind fun v20 => (zck 3 σ v20 (fX3_moveAll σ v20 (((zi 24)) + (x1 - ((zi 4)))) (((zi 26)) + (x1 - ((zi 4)))))).bind fun c21 => some c21)
def sX1_keepFirst_25b (x0 : Nat) (x1 : Int32) (x2 : Int32) (σ : zS) (u3 : Int32) (u4 : Int32) : Option ((zS × Int32 × Int32) ⊕ zS) :=
  (if x2 ≤ u4 then some (.inr σ) else (zgR 1 15 σ x0).bind fun v6 => (zgR 0 10 σ v6).bind fun v7 => (zck 3 σ v7 (fX3_add σ v7 x1 u3)).bind fun c8 => (zgR 1 14 c8 x0).bind fun v9 => (zck 3 c8 v9 (fX3_behind c8 v9 u3)).bind fun c10 => some (.inl (c10.1, c10.2, u4 + (zi 1))))
def sX1_keepFirst_25 (x0 : Nat) (x1 : Int32) (x2 : Int32) (z : (zS × Int32 × Int32)) : Option ((zS × Int32 × Int32) ⊕ zS) := sX1_keepFirst_25b x0 x1 x2 z.1 z.2.1 z.2.2
def fX1_keepFirst (σ : zS) (x0 : Nat) (x1 : Int32) (x2 : Int32) : Option zS :=
  (zgR 1 15 σ x0).bind fun v1 => (zgI 0 6 σ v1).bind fun v2 => (zpI 0 6 σ v1 (v2 + x2)).bind fun σ3 => (zgR 1 14 σ3 x0).bind fun v4 => (zck 3 σ3 v4 (fX3_firstOf σ3 v4 x1)).bind fun c5 => (zloop (sX1_keepFirst_25 x0 x1 x2) zfuel (c5.1, c5.2, (zi 0))).bind fun o12 => some o12
def jX1_letBarrierArrive_75 (σ : zS) (x0 : Nat) (x3 : Int32) (x4 : Int32)  : Option zS :=
  (zck 1 σ x0 (fX1_keepFirst σ x0 x3 x4)).bind fun c27 => some c27
def jX1_letBarrierArrive_31 (σ : zS) (x0 : Nat) (x1 : Int32) (x2 : Int32) (x3 : Int32) (x4 : Int32) (y0 : Int32) : Option zS :=
  (zgR 1 19 σ x0).bind fun v7 => (zsI σ v7 x3 ((zi (-1)))).bind fun σ8 => (zgR 1 15 σ8 x0).bind fun v9 => (zgR 0 7 σ8 v9).bind fun v10 => (zaI σ8 v10 x1).bind fun v11 => (zsI σ8 v10 x1 (v11 ||| (((zi 1)) <<< (x2 &&& 31)))).bind fun σ12 => (zgR 1 15 σ12 x0).bind fun v13 => (zgI 0 3 σ12 v13).bind fun v14 => (if v14 = ((zi 0)) then (zgR 1 13 σ12 x0).bind fun v15 => (zaI σ12 v15 x1).bind fun v16 => (zsI σ12 v15 x1 (v16 ||| (((zi 1)) <<< (x2 &&& 31)))).bind fun σ17 => (zgR 1 15 σ17 x0).bind fun v18 => (zgR 0 7 σ17 v18).bind fun v19 => (zaI σ17 v19 x1).bind fun v20 => (fJ6_bitCount_0f7a4 σ17 v20).bind fun c21 => (zck 1 c21.1 x0 (fX1_sendersTo c21.1 x0 x1)).bind fun c22 => (if c21.2 = c22.2 then (zck 1 c22.1 x0 (fX1_cut c22.1 x0 x1)).bind fun c23 => (zgR 1 13 c23 x0).bind fun v24 => (zsI c23 v24 x1 ((zi 0))).bind fun σ25 => some σ25 else some c22.1) else (if y0 = ((zi 0)) then jX1_letBarrierArrive_75 σ12 x0 x3 x4 else (zck 1 σ12 x0 (fX1_cut σ12 x0 x1)).bind fun c28 => jX1_letBarrierArrive_75 c28 x0 x3 x4))
def fX1_letBarrierArrive (σ : zS) (x0 : Nat) (x1 : Int32) (x2 : Int32) : Option zS :=
  (fX9_channel σ x1 x2).bind fun c1 => (zgR 1 19 c1.1 x0).bind fun v2 => (zaI c1.1 v2 c1.2).bind fun v3 => (zgR 1 15 c1.1 x0).bind fun v4 => (zgR 0 7 c1.1 v4).bind fun v5 => (zaI c1.1 v5 x1).bind fun v6 => (if v6 = ((zi 0)) then jX1_letBarrierArrive_31 c1.1 x0 x1 x2 c1.2 v3 ((zi 1)) else jX1_letBarrierArrive_31 c1.1 x0 x1 x2 c1.2 v3 ((zi 0)))
def jX1_letBarriersOvertake_55_L23 (σ : zS) (x0 : Nat) (x1 : Int32) (x2 : Int32) (x3 : Int32) (x4 : Int32)  : Option ((zS × Int32) ⊕ zS) :=
  some (.inl (σ, x4 + (zi 1)))
def sX1_letBarriersOvertake_23b (x0 : Nat) (x1 : Int32) (x2 : Int32) (x3 : Int32) (σ : zS) (u4 : Int32) : Option ((zS × Int32) ⊕ zS) :=
  (zck 1 σ x0 (fX1_sendersTo σ x0 x3)).bind fun c3 => (if c3.2 ≤ u4 then some (.inr c3.1) else (zgR 1 19 c3.1 x0).bind fun v4 => (fX9_channel c3.1 x3 u4).bind fun c5 => (zaI c5.1 v4 c5.2).bind fun v6 => (if v6 = ((zi (-1))) then jX1_letBarriersOvertake_55_L23 c5.1 x0 x1 x2 x3 u4 else (zck 1 c5.1 x0 (fX1_letBarrierArrive c5.1 x0 x3 u4)).bind fun c7 => jX1_letBarriersOvertake_55_L23 c7 x0 x1 x2 x3 u4))
def sX1_letBarriersOvertake_23 (x0 : Nat) (x1 : Int32) (x2 : Int32) (x3 : Int32) (z : (zS × Int32)) : Option ((zS × Int32) ⊕ zS) := sX1_letBarriersOvertake_23b x0 x1 x2 x3 z.1 z.2
def sX1_letBarriersOvertake_13b (x0 : Nat) (x1 : Int32) (x2 : Int32) (σ : zS) (u3 : Int32) : Option ((zS × Int32) ⊕ zS) :=
  (if (x1 + x2) ≤ u3 then some (.inr σ) else (zloop (sX1_letBarriersOvertake_23 x0 x1 x2 u3) zfuel (σ, (zi 0))).bind fun o10 => some (.inl (o10, u3 + (zi 1))))
def sX1_letBarriersOvertake_13 (x0 : Nat) (x1 : Int32) (x2 : Int32) (z : (zS × Int32)) : Option ((zS × Int32) ⊕ zS) := sX1_letBarriersOvertake_13b x0 x1 x2 z.1 z.2
def fX1_letBarriersOvertake (σ : zS) (x0 : Nat) (x1 : Int32) (x2 : Int32) : Option zS :=
  (zgR 1 15 σ x0).bind fun v1 => (zck 0 σ v1 (fX0_isOvertaking σ v1 )).bind fun c2 => (if c2.2 = ((zi 0)) then some c2.1 else (zloop (sX1_letBarriersOvertake_13 x0 x1 x2) zfuel (c2.1, x1)).bind fun o12 => some o12)
def fX7_sinkOf (σ : zS) (x0 : Nat) (x1 : Int32) : Option (zS × Int32) :=
  (zgI 7 1 σ x0).bind fun v1 => (if ((zi 1)) ≤ v1 then (zgI 7 1 σ x0).bind fun v2 => (znz v2).bind fun d3 => some (σ, (x1 / ((zi 4))) - (x1 / ((zi 4))) / v2 * v2) else some (σ, (zi 0)))
def fX1_channelForResult (σ : zS) (x0 : Nat) (x1 : Int32) (x2 : Int32) : Option (zS × Int32) :=
  (zgR 1 17 σ x0).bind fun v1 => (zgR 1 17 σ x0).bind fun v2 => (zck 7 σ v2 (fX7_keyOf σ v2 x2)).bind fun c3 => (zck 7 c3.1 v1 (fX7_sinkOf c3.1 v1 c3.2)).bind fun c4 => (fX9_channel c4.1 (((zi 4)) + c4.2) x1).bind fun c5 => some (c5.1, c5.2)
def jX1_canBeTaken_78 (σ : zS)   : Option (zS × Int32) :=
  zrZ σ ((zi 1))
def fX1_canBeTaken (σ : zS) (x0 : Nat) (x1 : Int32) (x2 : Int32) : Option (zS × Int32) :=
  (fX9_channel σ x1 x2).bind fun c1 => (zgR 1 13 c1.1 x0).bind fun v2 => (zaI c1.1 v2 x1).bind fun v3 => (if ((v3 >>> (x2 &&& 31)) &&& ((zi 1))) = ((zi 1)) then zrZ c1.1 ((zi 0)) else (zgR 1 19 c1.1 x0).bind fun v4 => (zaI c1.1 v4 c1.2).bind fun v5 => (if v5 = ((zi 0)) then zrZ c1.1 ((zi 1)) else (zgR 1 14 c1.1 x0).bind fun v6 => (zck 3 c1.1 v6 (fX3_sizeOf c1.1 v6 c1.2)).bind fun c7 => (if c7.2 = ((zi 0)) then zrZ c7.1 ((zi 0)) else (if ((zi 4)) ≤ x1 then jX1_canBeTaken_78 c7.1 else (zgR 1 14 c7.1 x0).bind fun v8 => (zgR 1 14 c7.1 x0).bind fun v9 => (zck 3 c7.1 v9 (fX3_firstOf c7.1 v9 c1.2)).bind fun c10 => (zck 1 c10.1 x0 (fX1_channelForResult c10.1 x0 x1 c10.2)).bind fun c11 => (zck 3 c11.1 v8 (fX3_sizeOf c11.1 v8 c11.2)).bind fun c12 => (zgI 1 1 c12.1 x0).bind fun v13 => (if v13 ≤ c12.2 then zrZ c12.1 ((zi 0)) else jX1_canBeTaken_78 c12.1)))))
def jX1_senderInTurn_29_L16 (σ : zS) (x0 : Nat) (x1 : Int32) (x2 : Int32) (x3 : Int32) (x4 : Int32)  : Option ((zS × Int32 × Int32) ⊕ ((zS × Int32) ⊕ zS)) :=
  (zck 1 σ x0 (fX1_canBeTaken σ x0 x1 x3)).bind fun c4 => (if c4.2 = ((zi 0)) then some (.inl (c4.1, x3 + (zi 1), x4 + (zi 1))) else some (.inr (.inl (c4.1, x3))))
def sX1_senderInTurn_16b (x0 : Nat) (x1 : Int32) (x2 : Int32) (σ : zS) (u3 : Int32) (u4 : Int32) : Option ((zS × Int32 × Int32) ⊕ ((zS × Int32) ⊕ zS)) :=
  (if x2 ≤ u4 then some (.inr (.inr σ)) else (if u3 < x2 then jX1_senderInTurn_29_L16 σ x0 x1 x2 u3 u4 else jX1_senderInTurn_29_L16 σ x0 x1 x2 ((zi 0)) u4))
def sX1_senderInTurn_16 (x0 : Nat) (x1 : Int32) (x2 : Int32) (z : (zS × Int32 × Int32)) : Option ((zS × Int32 × Int32) ⊕ ((zS × Int32) ⊕ zS)) := sX1_senderInTurn_16b x0 x1 x2 z.1 z.2.1 z.2.2
def fX1_senderInTurn (σ : zS) (x0 : Nat) (x1 : Int32) : Option (zS × Int32) :=
  (zck 1 σ x0 (fX1_sendersTo σ x0 x1)).bind fun c1 => (zgR 1 18 c1.1 x0).bind fun v2 => (zaI c1.1 v2 x1).bind fun v3 => (zloop (sX1_senderInTurn_16 x0 x1 c1.2) zfuel (c1.1, v3, (zi 0))).bind fun o8 => (match o8 with | (.inl z9) => some (z9.1, z9.2) | (.inr z10) => some (z10, (zi (-1))))
def fX7_valueOf (σ : zS) (x0 : Nat) (x1 : Int32) : Option (zS × Int32) :=
  (if x1 < ((zi 0)) then some (σ, (zi 0)) else (if ((zi 800)) ≤ x1 then some (σ, (zi 0)) else (zgR 7 9 σ x0).bind fun v1 => (zaI σ v1 x1).bind fun v2 => some (σ, v2)))
def fX1_addUp (σ : zS) (x0 : Nat) (x1 : Int32) (x2 : Int32) : Option zS :=
  (zgR 1 17 σ x0).bind fun v1 => (zck 7 σ v1 (fX7_keyOf σ v1 x2)).bind fun c2 => (if c2.2 < ((zi 0)) then some c2.1 else (if c2.2 < ((zi 16)) then (zgR 1 11 c2.1 x0).bind fun v3 => (zaI c2.1 v3 c2.2).bind fun v4 => (zgR 1 17 c2.1 x0).bind fun v5 => (zck 7 c2.1 v5 (fX7_valueOf c2.1 v5 x2)).bind fun c6 => (zsI c6.1 v3 c2.2 (v4 + c6.2)).bind fun σ7 => (zgR 1 12 σ7 x0).bind fun v8 => (zaI σ7 v8 x1).bind fun v9 => (zsI σ7 v8 x1 (v9 + ((zi 1)))).bind fun σ10 => (zgR 1 14 σ10 x0).bind fun v11 => (zck 1 σ10 x0 (fX1_channelForResult σ10 x0 x1 x2)).bind fun c12 => (zck 3 c12.1 v11 (fX3_add c12.1 v11 c12.2 x2)).bind fun c13 => some c13 else some c2.1))
def jX1_take_98 (σ : zS) (x0 : Nat) (x1 : Int32) (x4 : Int32)  : Option zS :=
  (if ((zi 4)) ≤ x1 then (zgR 1 14 σ x0).bind fun v12 => (zck 3 σ v12 (fX3_add σ v12 ((((zi 24)) + x1) - ((zi 4))) x4)).bind fun c13 => some c13 else (zck 1 σ x0 (fX1_addUp σ x0 x1 x4)).bind fun c14 => some c14)
def jX1_take_56 (σ : zS) (x0 : Nat) (x1 : Int32) (x2 : Int32) (x3 : Int32)  : Option zS :=
  (zgR 1 14 σ x0).bind fun v8 => (zck 3 σ v8 (fX3_takeFirst σ v8 x3)).bind fun c9 => (zgR 1 15 c9.1 x0).bind fun v10 => (zck 0 c9.1 v10 (fX0_isOvertaking c9.1 v10 )).bind fun c11 => (if c11.2 = ((zi 0)) then jX1_take_98 c11.1 x0 x1 c9.2 else (zgR 1 15 c11.1 x0).bind fun v16 => (zck 0 c11.1 v16 (fX0_isOnlyBehind c11.1 v16 x1 x2)).bind fun c17 => (if c17.2 = ((zi 0)) then jX1_take_98 c17.1 x0 x1 c9.2 else (zgR 1 15 c17.1 x0).bind fun v18 => (zck 0 c17.1 v18 (fX0_keep c17.1 v18 x3 c9.2)).bind fun c19 => jX1_take_98 c19 x0 x1 c9.2))
def fX1_take (σ : zS) (x0 : Nat) (x1 : Int32) (x2 : Int32) : Option zS :=
  (if x2 = ((zi (-1))) then some σ else (zgR 1 18 σ x0).bind fun v1 => (zsI σ v1 x1 (x2 + ((zi 1)))).bind fun σ2 => (fX9_channel σ2 x1 x2).bind fun c3 => (zgR 1 19 c3.1 x0).bind fun v4 => (zaI c3.1 v4 c3.2).bind fun v5 => (if v5 = ((zi 0)) then (zck 1 c3.1 x0 (fX1_letBarrierArrive c3.1 x0 x1 x2)).bind fun c26 => some c26 else (zgR 1 19 c3.1 x0).bind fun v6 => (zaI c3.1 v6 c3.2).bind fun v7 => (if v7 ≤ ((zi 0)) then jX1_take_56 c3.1 x0 x1 x2 c3.2 else (zgR 1 19 c3.1 x0).bind fun v22 => (zaI c3.1 v22 c3.2).bind fun v23 => (zsI c3.1 v22 c3.2 (v23 - ((zi 1)))).bind fun σ24 => jX1_take_56 σ24 x0 x1 x2 c3.2)))
def fX1_completeIfAllArrived (σ : zS) (x0 : Nat) : Option zS :=
  (zgR 1 15 σ x0).bind fun v1 => (zck 0 σ v1 (fX0_exists σ v1 )).bind fun c2 => (if c2.2 = ((zi 0)) then some c2.1 else (zgR 1 15 c2.1 x0).bind fun v3 => (zgI 0 5 c2.1 v3).bind fun v4 => (fJ6_bitCount_0f7a4 c2.1 v4).bind fun c5 => (zgR 1 17 c5.1 x0).bind fun v6 => (zgI 7 0 c5.1 v6).bind fun v7 => (if c5.2 < v7 then some c5.1 else (zgR 1 15 c5.1 x0).bind fun v8 => (zck 0 c5.1 v8 (fX0_arrivedFrom c5.1 v8 ((zi 0)) ((zi 4)))).bind fun c9 => (zgR 1 17 c9.1 x0).bind fun v10 => (zgI 7 0 c9.1 v10).bind fun v11 => (zgI 1 0 c9.1 x0).bind fun v12 => (if c9.2 < (v11 * v12) then some c9.1 else (zgR 1 15 c9.1 x0).bind fun v13 => (zck 0 c9.1 v13 (fX0_arrivedFrom c9.1 v13 ((zi 4)) ((zi 6)))).bind fun c14 => (zgI 1 0 c14.1 x0).bind fun v15 => (zgR 1 17 c14.1 x0).bind fun v16 => (zgI 7 1 c14.1 v16).bind fun v17 => (if (v15 * v17) ≤ c14.2 then (zgR 1 15 c14.1 x0).bind fun v18 => (zgI 1 4 c14.1 x0).bind fun v19 => (zpI 0 2 c14.1 v18 v19).bind fun σ20 => (zgR 1 16 σ20 x0).bind fun v21 => (zgR 1 15 σ20 x0).bind fun v22 => (zpR 1 16 σ20 x0 (some v22)).bind fun σ23 => (zpR 1 15 σ23 x0 (some v21)).bind fun σ24 => (zgR 1 15 σ24 x0).bind fun v25 => (zpI 0 0 σ24 v25 ((zi 0))).bind fun σ26 => (zgI 1 6 σ26 x0).bind fun v27 => (zpI 1 6 σ26 x0 (v27 + ((zi 1)))).bind fun σ28 => some σ28 else some c14.1))))
def sX1_tick_43b (x0 : Nat) (σ : zS) (u1 : Int32) : Option ((zS × Int32) ⊕ zS) :=
  (zgR 1 17 σ x0).bind fun v3 => (zgI 7 0 σ v3).bind fun v4 => (if v4 ≤ u1 then some (.inr σ) else (zck 1 σ x0 (fX1_putBarriers σ x0 u1)).bind fun c5 => (zck 1 c5 x0 (fX1_sendRecord c5 x0 u1)).bind fun c6 => some (.inl (c6, u1 + (zi 1))))
def sX1_tick_43 (x0 : Nat) (z : (zS × Int32)) : Option ((zS × Int32) ⊕ zS) := sX1_tick_43b x0 z.1 z.2
def sX1_tick_81b (x0 : Nat) (σ : zS) (u1 : Int32) : Option ((zS × Int32) ⊕ zS) :=
  (zgI 1 0 σ x0).bind fun v11 => (if v11 ≤ u1 then some (.inr σ) else (zck 1 σ x0 (fX1_senderInTurn σ x0 u1)).bind fun c12 => (zck 1 c12.1 x0 (fX1_take c12.1 x0 u1 c12.2)).bind fun c13 => some (.inl (c13, u1 + (zi 1))))
def sX1_tick_81 (x0 : Nat) (z : (zS × Int32)) : Option ((zS × Int32) ⊕ zS) := sX1_tick_81b x0 z.1 z.2
def sX1_tick_119b (x0 : Nat) (σ : zS) (u1 : Int32) : Option ((zS × Int32) ⊕ zS) :=
  (zgR 1 17 σ x0).bind fun v19 => (zgI 7 1 σ v19).bind fun v20 => (if v20 ≤ u1 then some (.inr σ) else (zck 1 σ x0 (fX1_senderInTurn σ x0 (((zi 4)) + u1))).bind fun c21 => (zck 1 c21.1 x0 (fX1_take c21.1 x0 (((zi 4)) + u1) c21.2)).bind fun c22 => some (.inl (c22, u1 + (zi 1))))
def sX1_tick_119 (x0 : Nat) (z : (zS × Int32)) : Option ((zS × Int32) ⊕ zS) := sX1_tick_119b x0 z.1 z.2
def jX1_tick_37 (σ : zS) (x0 : Nat)  : Option zS :=
  (zck 1 σ x0 (fX1_showLatest σ x0 )).bind fun c2 => (zloop (sX1_tick_43 x0) zfuel (c2, (zi 0))).bind fun o8 => (zgI 1 0 o8 x0).bind fun v9 => (zck 1 o8 x0 (fX1_letBarriersOvertake o8 x0 ((zi 0)) v9)).bind fun c10 => (zloop (sX1_tick_81 x0) zfuel (c10, (zi 0))).bind fun o15 => (zgR 1 17 o15 x0).bind fun v16 => (zgI 7 1 o15 v16).bind fun v17 => (zck 1 o15 x0 (fX1_letBarriersOvertake o15 x0 ((zi 4)) v17)).bind fun c18 => (zloop (sX1_tick_119 x0) zfuel (c18, (zi 0))).bind fun o24 => (zck 1 o24 x0 (fX1_completeIfAllArrived o24 x0 )).bind fun c25 => (zgI 1 4 c25 x0).bind fun v26 => (zpI 1 4 c25 x0 (v26 + ((zi 1)))).bind fun σ27 => some σ27
def fX1_tick (σ : zS) (x0 : Nat) : Option zS :=
  (zgI 1 2 σ x0).bind fun v1 => (if v1 = ((zi 0)) then jX1_tick_37 σ x0 else (zgI 1 4 σ x0).bind fun v28 => (zgI 1 2 σ x0).bind fun v29 => (znz v29).bind fun d30 => (if (v28 - v28 / v29 * v29) = ((zi 0)) then (zgR 1 15 σ x0).bind fun v31 => (zck 0 σ v31 (fX0_exists σ v31 )).bind fun c32 => (if c32.2 = ((zi 0)) then (zgI 1 3 c32.1 x0).bind fun v33 => (zck 1 c32.1 x0 (fX1_startCheckpoint c32.1 x0 v33)).bind fun c34 => jX1_tick_37 c34 x0 else jX1_tick_37 c32.1 x0) else jX1_tick_37 σ x0))
def sX1_ticksToCompletion_7b (x0 : Nat) (x1 : Int32) (x2 : Int32) (σ : zS) (u3 : Int32) : Option ((zS × Int32) ⊕ ((zS × Int32) ⊕ zS)) :=
  (if x1 < u3 then some (.inr (.inr σ)) else (zck 1 σ x0 (fX1_tick σ x0 )).bind fun c2 => (zgI 1 6 c2 x0).bind fun v3 => (if v3 ≤ x2 then some (.inl (c2, u3 + (zi 1))) else some (.inr (.inl (c2, u3)))))
def sX1_ticksToCompletion_7 (x0 : Nat) (x1 : Int32) (x2 : Int32) (z : (zS × Int32)) : Option ((zS × Int32) ⊕ ((zS × Int32) ⊕ zS)) := sX1_ticksToCompletion_7b x0 x1 x2 z.1 z.2
def fX1_ticksToCompletion (σ : zS) (x0 : Nat) (x1 : Int32) : Option (zS × Int32) :=
  (zgI 1 6 σ x0).bind fun v1 => (zloop (sX1_ticksToCompletion_7 x0 x1 v1) zfuel (σ, (zi 1))).bind fun o6 => (match o6 with | (.inl z7) => some (z7.1, z7.2) | (.inr z8) => some (z8, (zi (-1))))
def jX1_recoverWith_26 (σ : zS) (x0 : Nat) (x1 : Int32)  : Option zS :=
  (zpI 1 0 σ x0 x1).bind fun σ3 => (zck 1 σ3 x0 (fX1_recover σ3 x0 )).bind fun c4 => some c4
def fX1_recoverWith (σ : zS) (x0 : Nat) (x1 : Int32) : Option zS :=
  (zgR 1 16 σ x0).bind fun v1 => (zck 0 σ v1 (fX0_exists σ v1 )).bind fun c2 => (if c2.2 = ((zi 0)) then jX1_recoverWith_26 c2.1 x0 x1 else (zgR 1 16 c2.1 x0).bind fun v5 => (zgR 1 17 c2.1 x0).bind fun v6 => (zgI 1 0 c2.1 x0).bind fun v7 => (zck 0 c2.1 v5 (fX0_spread c2.1 v5 v6 v7 x1)).bind fun c8 => jX1_recoverWith_26 c8 x0 x1)
def sX1_isQuiet_2b (x0 : Nat) (σ : zS) (u1 : Int32) : Option ((zS × Int32) ⊕ (zS ⊕ zS)) :=
  (zgR 1 17 σ x0).bind fun v1 => (zgI 7 0 σ v1).bind fun v2 => (if v2 ≤ u1 then some (.inr (.inr σ)) else (zgR 1 10 σ x0).bind fun v3 => (zaI σ v3 u1).bind fun v4 => (zgR 1 17 σ x0).bind fun v5 => (zgR 7 2 σ v5).bind fun v6 => (zaI σ v6 u1).bind fun v7 => (if v7 ≤ v4 then some (.inl (σ, u1 + (zi 1))) else some (.inr (.inl σ))))
def sX1_isQuiet_2 (x0 : Nat) (z : (zS × Int32)) : Option ((zS × Int32) ⊕ (zS ⊕ zS)) := sX1_isQuiet_2b x0 z.1 z.2
def sX1_isQuiet_41b (x0 : Nat) (σ : zS) (u1 : Int32) : Option ((zS × Int32) ⊕ (zS ⊕ zS)) :=
  (if ((zi 28)) ≤ u1 then some (.inr (.inr σ)) else (zgR 1 14 σ x0).bind fun v13 => (zck 3 σ v13 (fX3_sizeOf σ v13 u1)).bind fun c14 => (if c14.2 ≤ ((zi 0)) then some (.inl (c14.1, u1 + (zi 1))) else some (.inr (.inl c14.1))))
def sX1_isQuiet_41 (x0 : Nat) (z : (zS × Int32)) : Option ((zS × Int32) ⊕ (zS ⊕ zS)) := sX1_isQuiet_41b x0 z.1 z.2
def fX1_isQuiet (σ : zS) (x0 : Nat) : Option (zS × Int32) :=
  (zloop (sX1_isQuiet_2 x0) zfuel (σ, (zi 0))).bind fun o10 => (match o10 with | (.inl z11) => zrZ z11 ((zi 0)) | (.inr z12) => (zloop (sX1_isQuiet_41 x0) zfuel (z12, (zi 0))).bind fun o17 => (match o17 with | (.inl z18) => zrZ z18 ((zi 0)) | (.inr z19) => zrZ z19 ((zi 1))))
def fX1_thingsIn (σ : zS) (x0 : Nat) (x1 : Int32) (x2 : Int32) : Option (zS × Int32) :=
  (if x2 = ((zi 0)) then (zgR 1 14 σ x0).bind fun v6 => (zck 3 σ v6 (fX3_sizeOf σ v6 x1)).bind fun c7 => some (c7.1, c7.2) else (if x1 < ((zi 0)) then some (σ, (zi 0)) else (if ((zi 24)) ≤ x1 then some (σ, (zi 0)) else (zgR 1 19 σ x0).bind fun v1 => (zaI σ v1 x1).bind fun v2 => (if v2 = ((zi (-1))) then some (σ, (zi 0)) else some (σ, (zi 1))))))
def sX1_recordsTo_4b (x0 : Nat) (x1 : Int32) (σ : zS) (u2 : Int32) (u3 : Int32) : Option ((zS × Int32 × Int32) ⊕ (zS × Int32)) :=
  (zgR 1 17 σ x0).bind fun v1 => (zgI 7 0 σ v1).bind fun v2 => (if v2 ≤ u3 then some (.inr (σ, u2)) else (zgR 1 14 σ x0).bind fun v3 => (fX9_channel σ x1 u3).bind fun c4 => (zck 3 c4.1 v3 (fX3_sizeOf c4.1 v3 c4.2)).bind fun c5 => some (.inl (c5.1, u2 + c5.2, u3 + (zi 1))))
def sX1_recordsTo_4 (x0 : Nat) (x1 : Int32) (z : (zS × Int32 × Int32)) : Option ((zS × Int32 × Int32) ⊕ (zS × Int32)) := sX1_recordsTo_4b x0 x1 z.1 z.2.1 z.2.2
def fX1_recordsTo (σ : zS) (x0 : Nat) (x1 : Int32) : Option (zS × Int32) :=
  (zloop (sX1_recordsTo_4 x0 x1) zfuel (σ, (zi 0), (zi 0))).bind fun o7 => some (o7.1, o7.2)
def sX1_resultsFrom_4b (x0 : Nat) (x1 : Int32) (σ : zS) (u2 : Int32) (u3 : Int32) : Option ((zS × Int32 × Int32) ⊕ (zS × Int32)) :=
  (zgR 1 17 σ x0).bind fun v1 => (zgI 7 1 σ v1).bind fun v2 => (if v2 ≤ u3 then some (.inr (σ, u2)) else (zgR 1 14 σ x0).bind fun v3 => (fX9_channel σ (((zi 4)) + u3) x1).bind fun c4 => (zck 3 c4.1 v3 (fX3_sizeOf c4.1 v3 c4.2)).bind fun c5 => some (.inl (c5.1, u2 + c5.2, u3 + (zi 1))))
def sX1_resultsFrom_4 (x0 : Nat) (x1 : Int32) (z : (zS × Int32 × Int32)) : Option ((zS × Int32 × Int32) ⊕ (zS × Int32)) := sX1_resultsFrom_4b x0 x1 z.1 z.2.1 z.2.2
def fX1_resultsFrom (σ : zS) (x0 : Nat) (x1 : Int32) : Option (zS × Int32) :=
  (zloop (sX1_resultsFrom_4 x0 x1) zfuel (σ, (zi 0), (zi 0))).bind fun o7 => some (o7.1, o7.2)
def sX1_handledInAll_4b (x0 : Nat) (σ : zS) (u1 : Int32) (u2 : Int32) : Option ((zS × Int32 × Int32) ⊕ (zS × Int32)) :=
  (zgI 1 0 σ x0).bind fun v1 => (if v1 ≤ u2 then some (.inr (σ, u1)) else (zgR 1 12 σ x0).bind fun v2 => (zaI σ v2 u2).bind fun v3 => some (.inl (σ, u1 + v3, u2 + (zi 1))))
def sX1_handledInAll_4 (x0 : Nat) (z : (zS × Int32 × Int32)) : Option ((zS × Int32 × Int32) ⊕ (zS × Int32)) := sX1_handledInAll_4b x0 z.1 z.2.1 z.2.2
def fX1_handledInAll (σ : zS) (x0 : Nat) : Option (zS × Int32) :=
  (zloop (sX1_handledInAll_4 x0) zfuel (σ, (zi 0), (zi 0))).bind fun o5 => some (o5.1, o5.2)
def sX1_positionsInAll_4b (x0 : Nat) (σ : zS) (u1 : Int32) (u2 : Int32) : Option ((zS × Int32 × Int32) ⊕ (zS × Int32)) :=
  (zgR 1 17 σ x0).bind fun v1 => (zgI 7 0 σ v1).bind fun v2 => (if v2 ≤ u2 then some (.inr (σ, u1)) else (zgR 1 10 σ x0).bind fun v3 => (zaI σ v3 u2).bind fun v4 => some (.inl (σ, u1 + v4, u2 + (zi 1))))
def sX1_positionsInAll_4 (x0 : Nat) (z : (zS × Int32 × Int32)) : Option ((zS × Int32 × Int32) ⊕ (zS × Int32)) := sX1_positionsInAll_4b x0 z.1 z.2.1 z.2.2
def fX1_positionsInAll (σ : zS) (x0 : Nat) : Option (zS × Int32) :=
  (zloop (sX1_positionsInAll_4 x0) zfuel (σ, (zi 0), (zi 0))).bind fun o6 => some (o6.1, o6.2)
def sX1_recordsAtRisk_7b (x0 : Nat) (σ : zS) (u1 : Int32) (u2 : Int32) : Option ((zS × Int32 × Int32) ⊕ (zS × Int32)) :=
  (zgR 1 16 σ x0).bind fun v2 => (zck 0 σ v2 (fX0_exists σ v2 )).bind fun c3 => (if c3.2 = ((zi 0)) then some (.inr (c3.1, u1)) else (zgR 1 17 c3.1 x0).bind fun v4 => (zgI 7 0 c3.1 v4).bind fun v5 => (if v5 ≤ u2 then some (.inr (c3.1, u1)) else (zgR 1 16 c3.1 x0).bind fun v6 => (zgR 0 8 c3.1 v6).bind fun v7 => (zaI c3.1 v7 u2).bind fun v8 => some (.inl (c3.1, u1 - v8, u2 + (zi 1)))))
def sX1_recordsAtRisk_7 (x0 : Nat) (z : (zS × Int32 × Int32)) : Option ((zS × Int32 × Int32) ⊕ (zS × Int32)) := sX1_recordsAtRisk_7b x0 z.1 z.2.1 z.2.2
def fX1_recordsAtRisk (σ : zS) (x0 : Nat) : Option (zS × Int32) :=
  (zck 1 σ x0 (fX1_positionsInAll σ x0 )).bind fun c1 => (zloop (sX1_recordsAtRisk_7 x0) zfuel (c1.1, c1.2, (zi 0))).bind fun o11 => some (o11.1, o11.2)
def fX2_addByte (σ : zS) (x0 : Nat) (x1 : Int32) : Option zS :=
  (zgI 2 1 σ x0).bind fun v1 => (if v1 < ((zi 0)) then some σ else (zgI 2 1 σ x0).bind fun v2 => (zgR 2 0 σ x0).bind fun v3 => (zlen σ v3).bind fun v4 => (if v4 ≤ v2 then some σ else (zgR 2 0 σ x0).bind fun v5 => (zgI 2 1 σ x0).bind fun v6 => (zsB σ v5 v6 x1.toInt8.toInt32).bind fun σ7 => (zgI 2 1 σ7 x0).bind fun v8 => (zpI 2 1 σ7 x0 (v8 + ((zi 1)))).bind fun σ9 => some σ9))
def fX2_addFourBytes (σ : zS) (x0 : Nat) (x1 : Int32) : Option zS :=
  (zck 2 σ x0 (fX2_addByte σ x0 ((x1.toUInt32 >>> (((zi 24) : Int32).toUInt32 &&& Int32.toUInt32 31)).toInt32))).bind fun c1 => (zck 2 c1 x0 (fX2_addByte c1 x0 ((x1.toUInt32 >>> (((zi 16) : Int32).toUInt32 &&& Int32.toUInt32 31)).toInt32))).bind fun c2 => (zck 2 c2 x0 (fX2_addByte c2 x0 ((x1.toUInt32 >>> (((zi 8) : Int32).toUInt32 &&& Int32.toUInt32 31)).toInt32))).bind fun c3 => (zck 2 c3 x0 (fX2_addByte c3 x0 x1)).bind fun c4 => some c4
def fX2_byteAt (σ : zS) (x0 : Nat) (x1 : Int32) : Option (zS × Int32) :=
  (if x1 < ((zi 0)) then some (σ, (zi 0)) else (zgI 2 1 σ x0).bind fun v1 => (if v1 ≤ x1 then some (σ, (zi 0)) else (zgR 2 0 σ x0).bind fun v2 => (zlen σ v2).bind fun v3 => (if v3 ≤ x1 then some (σ, (zi 0)) else (zgR 2 0 σ x0).bind fun v4 => (zaB σ v4 x1).bind fun v5 => some (σ, v5))))
def sX3_at_24b (x0 : Nat) (x2 : Int32) (σ : zS) (u3 : Int32) (u4 : Int32) : Option ((zS × Int32 × Int32) ⊕ (zS × Int32)) :=
  (if x2 ≤ u4 then some (.inr (σ, u3)) else (zck 3 σ x0 (fX3_behind σ x0 u3)).bind fun c3 => some (.inl (c3.1, c3.2, u4 + (zi 1))))
def sX3_at_24 (x0 : Nat) (x2 : Int32) (z : (zS × Int32 × Int32)) : Option ((zS × Int32 × Int32) ⊕ (zS × Int32)) := sX3_at_24b x0 x2 z.1 z.2.1 z.2.2
def fX3_at (σ : zS) (x0 : Nat) (x1 : Int32) (x2 : Int32) : Option (zS × Int32) :=
  (if x2 < ((zi 0)) then some (σ, (zi (-1))) else (zck 3 σ x0 (fX3_sizeOf σ x0 x1)).bind fun c1 => (if x2 < c1.2 then (zck 3 c1.1 x0 (fX3_firstOf c1.1 x0 x1)).bind fun c2 => (zloop (sX3_at_24 x0 x2) zfuel (c2.1, c2.2, (zi 0))).bind fun o5 => some (o5.1, o5.2) else some (c1.1, (zi (-1)))))
def fX4_add (σ : zS) (x0 : Nat) (x1 : Int32) : Option zS :=
  (zgI 4 1 σ x0).bind fun v1 => (if v1 < ((zi 0)) then some σ else (zgI 4 1 σ x0).bind fun v2 => (zgR 4 0 σ x0).bind fun v3 => (zlen σ v3).bind fun v4 => (if v4 ≤ v2 then some σ else (zgR 4 0 σ x0).bind fun v5 => (zgI 4 1 σ x0).bind fun v6 => (zsB σ v5 v6 x1.toInt8.toInt32).bind fun σ7 => (zgI 4 1 σ7 x0).bind fun v8 => (zpI 4 1 σ7 x0 (v8 + ((zi 1)))).bind fun σ9 => some σ9))
def sX4_addNumber_4b (x0 : Nat) (x1 : Int32) (σ : zS) (u2 : Int32) (u3 : Int32) : Option ((zS × Int32 × Int32) ⊕ (zS × Int32)) :=
  (if ((zi 9)) ≤ u3 then some (.inr (σ, u2)) else (if (x1 / ((zi 10))) < u2 then some (.inr (σ, u2)) else some (.inl (σ, u2 * ((zi 10)), u3 + (zi 1)))))
def sX4_addNumber_4 (x0 : Nat) (x1 : Int32) (z : (zS × Int32 × Int32)) : Option ((zS × Int32 × Int32) ⊕ (zS × Int32)) := sX4_addNumber_4b x0 x1 z.1 z.2.1 z.2.2
def sX4_addNumber_29b (x0 : Nat) (x1 : Int32) (σ : zS) (u2 : Int32) : Option ((zS × Int32) ⊕ zS) :=
  (if u2 ≤ ((zi 0)) then some (.inr σ) else (znz u2).bind fun d4 => (zck 4 σ x0 (fX4_add σ x0 (((zi 48)) + ((x1 / u2) - (x1 / u2) / ((zi 10)) * ((zi 10)))))).bind fun c5 => some (.inl (c5, u2 / ((zi 10)))))
def sX4_addNumber_29 (x0 : Nat) (x1 : Int32) (z : (zS × Int32)) : Option ((zS × Int32) ⊕ zS) := sX4_addNumber_29b x0 x1 z.1 z.2
def jX4_addNumber_29 (σ : zS) (x0 : Nat) (x1 : Int32) (x2 : Int32)  : Option zS :=
  (zloop (sX4_addNumber_29 x0 x1) zfuel (σ, x2)).bind fun o7 => some o7
def fX4_addNumber (σ : zS) (x0 : Nat) (x1 : Int32) : Option zS :=
  (zloop (sX4_addNumber_4 x0 x1) zfuel (σ, (zi 1), (zi 1))).bind fun o3 => jX4_addNumber_29 o3.1 x0 x1 o3.2
def fX7_clear (σ : zS) (x0 : Nat) : Option zS :=
  (zpI 7 0 σ x0 ((zi 0))).bind fun σ1 => (zgR 7 2 σ1 x0).bind fun v2 => (fX9_fillRow σ1 v2 ((zi 0))).bind fun c3 => (zgR 7 3 c3 x0).bind fun v4 => (fX9_fillRow c3 v4 ((zi 0))).bind fun c5 => (zgR 7 4 c5 x0).bind fun v6 => (fX9_fillRow c5 v6 ((zi 0))).bind fun c7 => (zgR 7 7 c7 x0).bind fun v8 => (fX9_fillRow c7 v8 ((zi (-1)))).bind fun c9 => some c9
def jX5_kindAt_50 (σ : zS) (x2 : Int32)  : Option (zS × Int32) :=
  (if x2 = ((zi 59)) then some (σ, (zi 3)) else some (σ, (zi 4)))
def jX5_kindAt_36 (σ : zS) (x2 : Int32)  : Option (zS × Int32) :=
  (if x2 < ((zi 48)) then jX5_kindAt_50 σ x2 else (if ((zi 57)) < x2 then jX5_kindAt_50 σ x2 else some (σ, (zi 2))))
def fX5_kindAt (σ : zS) (x0 : Nat) (x1 : Int32) : Option (zS × Int32) :=
  (zgR 5 2 σ x0).bind fun v1 => (zgI 2 1 σ v1).bind fun v2 => (if x1 < v2 then (zgR 5 2 σ x0).bind fun v3 => (zck 2 σ v3 (fX2_byteAt σ v3 x1)).bind fun c4 => (if c4.2 < ((zi 97)) then jX5_kindAt_36 c4.1 c4.2 else (if ((zi 122)) < c4.2 then jX5_kindAt_36 c4.1 c4.2 else some (c4.1, (zi 1)))) else some (σ, (zi 0)))
def jX5_advance_54_L8 (σ : zS) (x0 : Nat)  : Option (zS ⊕ zS) :=
  (zgI 5 5 σ x0).bind fun v9 => (zpI 5 5 σ x0 (v9 + ((zi 1)))).bind fun σ10 => some (.inl σ10)
def sX5_advance_8b (x0 : Nat) (σ : zS)  : Option (zS ⊕ zS) :=
  (zgI 5 5 σ x0).bind fun v3 => (zgR 5 2 σ x0).bind fun v4 => (zgI 2 1 σ v4).bind fun v5 => (if v5 ≤ v3 then some (.inr σ) else (zgR 5 2 σ x0).bind fun v6 => (zgI 5 5 σ x0).bind fun v7 => (zck 2 σ v6 (fX2_byteAt σ v6 v7)).bind fun c8 => (if c8.2 = ((zi 32)) then jX5_advance_54_L8 c8.1 x0 else (zgR 5 2 c8.1 x0).bind fun v11 => (zgI 5 5 c8.1 x0).bind fun v12 => (zck 2 c8.1 v11 (fX2_byteAt c8.1 v11 v12)).bind fun c13 => (if c13.2 = ((zi 10)) then jX5_advance_54_L8 c13.1 x0 else some (.inr c13.1))))
def sX5_advance_8 (x0 : Nat) (z : zS) : Option (zS ⊕ zS) := sX5_advance_8b x0 z
def jX5_advance_121_L105 (σ : zS) (x0 : Nat)  : Option (zS ⊕ zS) :=
  (zgI 5 6 σ x0).bind fun v27 => (zgR 5 2 σ x0).bind fun v28 => (zgI 2 1 σ v28).bind fun v29 => (if v29 ≤ v27 then some (.inr σ) else (zgI 5 6 σ x0).bind fun v30 => (zck 5 σ x0 (fX5_kindAt σ x0 v30)).bind fun c31 => (zgI 5 4 c31.1 x0).bind fun v32 => (if c31.2 = v32 then (zgI 5 6 c31.1 x0).bind fun v33 => (zpI 5 6 c31.1 x0 (v33 + ((zi 1)))).bind fun σ34 => some (.inl σ34) else some (.inr c31.1)))
def sX5_advance_105b (x0 : Nat) (σ : zS)  : Option (zS ⊕ zS) :=
  (zgI 5 4 σ x0).bind fun v26 => (if v26 = ((zi 1)) then jX5_advance_121_L105 σ x0 else (zgI 5 4 σ x0).bind fun v37 => (if v37 = ((zi 2)) then jX5_advance_121_L105 σ x0 else some (.inr σ)))
def sX5_advance_105 (x0 : Nat) (z : zS) : Option (zS ⊕ zS) := sX5_advance_105b x0 z
def jX5_advance_67 (σ : zS) (x0 : Nat)  : Option zS :=
  (zgI 5 5 σ x0).bind fun v18 => (zck 5 σ x0 (fX5_kindAt σ x0 v18)).bind fun c19 => (zpI 5 4 c19.1 x0 c19.2).bind fun σ20 => (zgI 5 5 σ20 x0).bind fun v21 => (zpI 5 6 σ20 x0 v21).bind fun σ22 => (zgI 5 4 σ22 x0).bind fun v23 => (if v23 = ((zi 0)) then some σ22 else (zgI 5 6 σ22 x0).bind fun v24 => (zpI 5 6 σ22 x0 (v24 + ((zi 1)))).bind fun σ25 => (zloop (sX5_advance_105 x0) zfuel σ25).bind fun o40 => some o40)
def fX5_advance (σ : zS) (x0 : Nat) : Option zS :=
  (zgI 5 6 σ x0).bind fun v1 => (zpI 5 5 σ x0 v1).bind fun σ2 => (zloop (sX5_advance_8 x0) zfuel σ2).bind fun o17 => jX5_advance_67 o17 x0
def fJ0_coder_7d493 (σ : zS) (x0 : Nat) : Option (zS × Int32) :=
  (if 1 = ((zi 0)) then zrB σ ((zi 1)) else (zstC x0).bind fun v1 => zrB σ v1)
def fJ0_length_8abf5 (σ : zS) (x0 : Nat) : Option (zS × Int32) :=
  (zstV x0).bind fun v1 => (zstL v1).bind fun v2 => (zsck x0 (fJ0_coder_7d493 σ x0 )).bind fun c3 => some (c3.1, v2 >>> (c3.2 &&& 31))
def fJ0_isLatin1_aae02 (σ : zS) (x0 : Nat) : Option (zS × Int32) :=
  (if 1 = ((zi 0)) then zrZ σ ((zi 0)) else (zstC x0).bind fun v1 => (if v1 = ((zi 0)) then zrZ σ ((zi 1)) else zrZ σ ((zi 0))))
def jJ3_checkIndex_8e157_9 (σ : zS) (x0 : Int32) (x1 : Int32)  : Option (zS × Int32) :=
  none
def fJ3_checkIndex_8e157 (σ : zS) (x0 : Int32) (x1 : Int32) : Option (zS × Int32) :=
  (if x0 < ((zi 0)) then jJ3_checkIndex_8e157_9 σ x0 x1 else (if x0 < x1 then some (σ, x0) else jJ3_checkIndex_8e157_9 σ x0 x1))
def fJ0_checkIndex_df160 (σ : zS) (x0 : Int32) (x1 : Int32) : Option zS :=
  (fJ3_checkIndex_8e157 σ x0 x1).bind fun c1 => some c1.1
def fJ1_charAt_3b067 (σ : zS) (x0 : Nat) (x1 : Int32) : Option (zS × Int32) :=
  (zstL x0).bind fun v1 => (fJ0_checkIndex_df160 σ x1 v1).bind fun c2 => (zstA x0 x1).bind fun v3 => zrC c2 (((v3 &&& ((zi 255)) : Int32).toUInt32 % 65536).toInt32)
def fJ2_length_9d52b (σ : zS) (x0 : Nat) : Option (zS × Int32) :=
  (zstL x0).bind fun v1 => some (σ, v1 >>> (((zi 1)) &&& 31))
def fJ2_checkIndex_2214a (σ : zS) (x0 : Int32) (x1 : Nat) : Option zS :=
  none
def fJ2_charAt_3b067 (σ : zS) (x0 : Nat) (x1 : Int32) : Option (zS × Int32) :=
  none
def fJ0_charAt_5068e (σ : zS) (x0 : Nat) (x1 : Int32) : Option (zS × Int32) :=
  (zsck x0 (fJ0_isLatin1_aae02 σ x0 )).bind fun c1 => (if c1.2 = ((zi 0)) then (zstV x0).bind fun v2 => none else (zstV x0).bind fun v3 => (fJ1_charAt_3b067 c1.1 v3 x1).bind fun c4 => zrC c4.1 c4.2)
def sX5_isToken_20b (x0 : Nat) (x1 : Nat) (σ : zS) (u2 : Int32) : Option ((zS × Int32) ⊕ (zS ⊕ zS)) :=
  (zsck x1 (fJ0_length_8abf5 σ x1 )).bind fun c4 => (if c4.2 ≤ u2 then some (.inr (.inr c4.1)) else (zsck x1 (fJ0_charAt_5068e c4.1 x1 u2)).bind fun c5 => (zgR 5 2 c5.1 x0).bind fun v6 => (zgI 5 5 c5.1 x0).bind fun v7 => (zck 2 c5.1 v6 (fX2_byteAt c5.1 v6 (v7 + u2))).bind fun c8 => (if c5.2 = c8.2 then some (.inl (c8.1, u2 + (zi 1))) else some (.inr (.inl c8.1))))
def sX5_isToken_20 (x0 : Nat) (x1 : Nat) (z : (zS × Int32)) : Option ((zS × Int32) ⊕ (zS ⊕ zS)) := sX5_isToken_20b x0 x1 z.1 z.2
def fX5_isToken (σ : zS) (x0 : Nat) (x1 : Nat) : Option (zS × Int32) :=
  (zsck x1 (fJ0_length_8abf5 σ x1 )).bind fun c1 => (zgI 5 6 c1.1 x0).bind fun v2 => (zgI 5 5 c1.1 x0).bind fun v3 => (if c1.2 = (v2 - v3) then (zloop (sX5_isToken_20 x0 x1) zfuel (c1.1, (zi 0))).bind fun o11 => (match o11 with | (.inl z12) => zrZ z12 ((zi 0)) | (.inr z13) => zrZ z13 ((zi 1))) else zrZ c1.1 ((zi 0)))
def sX5_quotedWord_19b (x0 : Nat) (x2 : Int32) (σ : zS) (u3 : Int32) : Option ((zS × Int32) ⊕ ((zS × Nat) ⊕ zS)) :=
  (if x2 ≤ u3 then some (.inr (.inr σ)) else (zwA u3).bind fun v3 => (zwX v3).bind fun v4 => (zck 5 σ x0 (fX5_isToken σ x0 v4)).bind fun c5 => (if c5.2 = ((zi 0)) then some (.inl (c5.1, u3 + (zi 1))) else some (.inr (.inl (c5.1, v3)))))
def sX5_quotedWord_19 (x0 : Nat) (x2 : Int32) (z : (zS × Int32)) : Option ((zS × Int32) ⊕ ((zS × Nat) ⊕ zS)) := sX5_quotedWord_19b x0 x2 z.1 z.2
def fX5_quotedWord (σ : zS) (x0 : Nat) : Option (zS × Option Nat) :=
  (zgI 5 4 σ x0).bind fun v1 => (if v1 = ((zi 1)) then (zwN).bind fun v2 => (zloop (sX5_quotedWord_19 x0 v2) zfuel (σ, (zi 0))).bind fun o8 => (match o8 with | (.inl z9) => some (z9.1, some z9.2) | (.inr z10) => some (z10, none)) else some (σ, none))
def fX5_refuse (σ : zS) (x0 : Nat) (x1 : Int32) : Option (zS × Int32) :=
  (zpI 5 0 σ x0 x1).bind fun σ1 => (zgI 5 5 σ1 x0).bind fun v2 => (zpI 5 1 σ1 x0 v2).bind fun σ3 => zrZ σ3 ((zi 0))
def sX7_isName_36b (x0 : Nat) (x1 : Int32) (x2 : Nat) (x3 : Int32) (x4 : Int32) (σ : zS) (u5 : Int32) : Option ((zS × Int32) ⊕ (zS ⊕ zS)) :=
  (if x4 ≤ u5 then some (.inr (.inr σ)) else (zgR 7 6 σ x0).bind fun v4 => (zaB σ v4 ((((zi 8)) * x1) + u5)).bind fun v5 => (zaB σ x2 (x3 + u5)).bind fun v6 => (if v5 = v6 then some (.inl (σ, u5 + (zi 1))) else some (.inr (.inl σ))))
def sX7_isName_36 (x0 : Nat) (x1 : Int32) (x2 : Nat) (x3 : Int32) (x4 : Int32) (z : (zS × Int32)) : Option ((zS × Int32) ⊕ (zS ⊕ zS)) := sX7_isName_36b x0 x1 x2 x3 x4 z.1 z.2
def fX7_isName (σ : zS) (x0 : Nat) (x1 : Int32) (x2 : Nat) (x3 : Int32) (x4 : Int32) : Option (zS × Int32) :=
  (zgR 7 5 σ x0).bind fun v1 => (zaI σ v1 x1).bind fun v2 => (if x4 = v2 then (if ((zi 8)) < x4 then zrZ σ ((zi 0)) else (if x3 < ((zi 0)) then zrZ σ ((zi 0)) else (zlen σ x2).bind fun v3 => (if (x3 + x4) ≤ v3 then (zloop (sX7_isName_36 x0 x1 x2 x3 x4) zfuel (σ, (zi 0))).bind fun o9 => (match o9 with | (.inl z10) => zrZ z10 ((zi 0)) | (.inr z11) => zrZ z11 ((zi 1))) else zrZ σ ((zi 0))))) else zrZ σ ((zi 0)))
def sX7_named_3b (x0 : Nat) (x1 : Nat) (x2 : Int32) (x3 : Int32) (σ : zS) (u4 : Int32) : Option ((zS × Int32) ⊕ ((zS × Int32) ⊕ zS)) :=
  (zgI 7 0 σ x0).bind fun v1 => (if v1 ≤ u4 then some (.inr (.inr σ)) else (zck 7 σ x0 (fX7_isName σ x0 u4 x1 x2 x3)).bind fun c2 => (if c2.2 = ((zi 0)) then some (.inl (c2.1, u4 + (zi 1))) else some (.inr (.inl (c2.1, u4)))))
def sX7_named_3 (x0 : Nat) (x1 : Nat) (x2 : Int32) (x3 : Int32) (z : (zS × Int32)) : Option ((zS × Int32) ⊕ ((zS × Int32) ⊕ zS)) := sX7_named_3b x0 x1 x2 x3 z.1 z.2
def fX7_named (σ : zS) (x0 : Nat) (x1 : Nat) (x2 : Int32) (x3 : Int32) : Option (zS × Int32) :=
  (zloop (sX7_named_3 x0 x1 x2 x3) zfuel (σ, (zi 0))).bind fun o5 => (match o5 with | (.inl z6) => some (z6.1, z6.2) | (.inr z7) => some (z7, (zi (-1))))
def fX7_setName (σ : zS) (x0 : Nat) (x1 : Int32) (x2 : Nat) (x3 : Int32) (x4 : Int32) : Option zS :=
  (if x1 < ((zi 0)) then some σ else (if ((zi 4)) ≤ x1 then some σ else (if x4 < ((zi 0)) then some σ else (if ((zi 8)) < x4 then some σ else (if x3 < ((zi 0)) then some σ else (zlen σ x2).bind fun v1 => (if (x3 + x4) ≤ v1 then (zgR 7 6 σ x0).bind fun v2 => (zcY σ x2 x3 v2 (((zi 8)) * x1) x4).bind fun σ3 => (zgR 7 5 σ3 x0).bind fun v4 => (zsI σ3 v4 x1 x4).bind fun σ5 => some σ5 else some σ))))))
def jX5_readName_29 (σ : zS) (x0 : Nat)  : Option (zS × Int32) :=
  (zck 5 σ x0 (fX5_refuse σ x0 ((zi 1)))).bind fun c2 => zrZ c2.1 c2.2
def fX5_readName (σ : zS) (x0 : Nat) (x1 : Int32) : Option (zS × Int32) :=
  (zgI 5 4 σ x0).bind fun v1 => (if v1 = ((zi 1)) then (zgI 5 6 σ x0).bind fun v3 => (zgI 5 5 σ x0).bind fun v4 => (if ((zi 8)) < (v3 - v4) then jX5_readName_29 σ x0 else (zck 5 σ x0 (fX5_quotedWord σ x0 )).bind fun c5 => (match c5.2 with | none => (zgR 5 3 c5.1 x0).bind fun v8 => (zgR 5 2 c5.1 x0).bind fun v9 => (zgR 2 0 c5.1 v9).bind fun v10 => (zgI 5 5 c5.1 x0).bind fun v11 => (zgI 5 6 c5.1 x0).bind fun v12 => (zgI 5 5 c5.1 x0).bind fun v13 => (zck 7 c5.1 v8 (fX7_named c5.1 v8 v10 v11 (v12 - v13))).bind fun c14 => (if c14.2 = ((zi (-1))) then (zgR 5 3 c14.1 x0).bind fun v15 => (zgR 5 2 c14.1 x0).bind fun v16 => (zgR 2 0 c14.1 v16).bind fun v17 => (zgI 5 5 c14.1 x0).bind fun v18 => (zgI 5 6 c14.1 x0).bind fun v19 => (zgI 5 5 c14.1 x0).bind fun v20 => (zck 7 c14.1 v15 (fX7_setName c14.1 v15 x1 v17 v18 (v19 - v20))).bind fun c21 => (zck 5 c21 x0 (fX5_advance c21 x0 )).bind fun c22 => zrZ c22 ((zi 1)) else (zck 5 c14.1 x0 (fX5_refuse c14.1 x0 ((zi 3)))).bind fun c23 => zrZ c23.1 c23.2) | some a6 => jX5_readName_29 c5.1 x0)) else jX5_readName_29 σ x0)
def fX5_readWord (σ : zS) (x0 : Nat) (x1 : Nat) : Option (zS × Int32) :=
  (zck 5 σ x0 (fX5_quotedWord σ x0 )).bind fun c1 => (match c1.2 with | none => (zck 5 c1.1 x0 (fX5_refuse c1.1 x0 ((zi 1)))).bind fun c4 => zrZ c4.1 c4.2 | some a2 => (zwE a2 x1).bind fun v5 => (if v5 = 1 then (zck 5 c1.1 x0 (fX5_advance c1.1 x0 )).bind fun c6 => zrZ c6 ((zi 1)) else (zck 5 c1.1 x0 (fX5_refuse c1.1 x0 ((zi 1)))).bind fun c7 => zrZ c7.1 c7.2))
def jX5_readNumber_21 (σ : zS) (x0 : Nat)  : Option (zS × Int32) :=
  (zck 5 σ x0 (fX5_refuse σ x0 ((zi 1)))).bind fun c2 => zrZ c2.1 c2.2
def sX5_readNumber_37b (x0 : Nat) (x1 : Nat) (σ : zS) (u2 : Int32) : Option ((zS × Int32) ⊕ zS) :=
  (zgI 5 6 σ x0).bind fun v7 => (if v7 ≤ u2 then some (.inr σ) else (zgI 5 7 σ x0).bind fun v8 => (zgR 5 2 σ x0).bind fun v9 => (zck 2 σ v9 (fX2_byteAt σ v9 u2)).bind fun c10 => (zpI 5 7 c10.1 x0 (((((zi 10)) * v8) + c10.2) - ((zi 48)))).bind fun σ11 => some (.inl (σ11, u2 + (zi 1))))
def sX5_readNumber_37 (x0 : Nat) (x1 : Nat) (z : (zS × Int32)) : Option ((zS × Int32) ⊕ zS) := sX5_readNumber_37b x0 x1 z.1 z.2
def jX5_readNumber_96 (σ : zS) (x0 : Nat)  : Option (zS × Int32) :=
  (zck 5 σ x0 (fX5_refuse σ x0 ((zi 2)))).bind fun c16 => zrZ c16.1 c16.2
def fX5_readNumber (σ : zS) (x0 : Nat) (x1 : Nat) : Option (zS × Int32) :=
  (zgI 5 4 σ x0).bind fun v1 => (if v1 = ((zi 2)) then (zgI 5 6 σ x0).bind fun v3 => (zgI 5 5 σ x0).bind fun v4 => (if (v3 - v4) ≤ ((zi 3)) then (zpI 5 7 σ x0 ((zi 0))).bind fun σ5 => (zgI 5 5 σ5 x0).bind fun v6 => (zloop (sX5_readNumber_37 x0 x1) zfuel (σ5, v6)).bind fun o13 => (zgI 5 7 o13 x0).bind fun v14 => (zwI 2 x1).bind fun v15 => (if v14 < v15 then jX5_readNumber_96 o13 x0 else (zgI 5 7 o13 x0).bind fun v17 => (zwI 3 x1).bind fun v18 => (if v17 ≤ v18 then (zck 5 o13 x0 (fX5_advance o13 x0 )).bind fun c19 => zrZ c19 ((zi 1)) else jX5_readNumber_96 o13 x0)) else jX5_readNumber_21 σ x0) else jX5_readNumber_21 σ x0)
def jX5_readSource_140 (σ : zS) (x0 : Nat)  : Option (zS × Int32) :=
  (zgR 5 3 σ x0).bind fun v20 => (zgI 7 0 σ v20).bind fun v21 => (zpI 7 0 σ v20 (v21 + ((zi 1)))).bind fun σ22 => zrZ σ22 ((zi 1))
def fX5_readSource (σ : zS) (x0 : Nat) : Option (zS × Int32) :=
  (zgR 5 3 σ x0).bind fun v1 => (zgI 7 0 σ v1).bind fun v2 => (if v2 < ((zi 4)) then (zck 5 σ x0 (fX5_advance σ x0 )).bind fun c3 => (zck 5 c3 x0 (fX5_readName c3 x0 v2)).bind fun c4 => (if c4.2 = ((zi 0)) then zrZ c4.1 ((zi 0)) else (zck 5 c4.1 x0 (fX5_readWord c4.1 x0 1)).bind fun c5 => (if c5.2 = ((zi 0)) then zrZ c5.1 ((zi 0)) else (zck 5 c5.1 x0 (fX5_readNumber c5.1 x0 1)).bind fun c6 => (if c6.2 = ((zi 0)) then zrZ c6.1 ((zi 0)) else (zgR 5 3 c6.1 x0).bind fun v7 => (zgR 7 2 c6.1 v7).bind fun v8 => (zgI 5 7 c6.1 x0).bind fun v9 => (zsI c6.1 v8 v2 v9).bind fun σ10 => (zck 5 σ10 x0 (fX5_readWord σ10 x0 2)).bind fun c11 => (if c11.2 = ((zi 0)) then zrZ c11.1 ((zi 0)) else (zck 5 c11.1 x0 (fX5_readNumber c11.1 x0 2)).bind fun c12 => (if c12.2 = ((zi 0)) then zrZ c12.1 ((zi 0)) else (zgR 5 3 c12.1 x0).bind fun v13 => (zgR 7 3 c12.1 v13).bind fun v14 => (zgI 5 7 c12.1 x0).bind fun v15 => (zsI c12.1 v14 v2 v15).bind fun σ16 => (zck 5 σ16 x0 (fX5_quotedWord σ16 x0 )).bind fun c17 => (match c17.2 with | none => jX5_readSource_140 c17.1 x0 | some a18 => (zwE a18 3).bind fun v23 => (if v23 = 1 then (zck 5 c17.1 x0 (fX5_advance c17.1 x0 )).bind fun c24 => (zck 5 c24 x0 (fX5_readNumber c24 x0 3)).bind fun c25 => (if c25.2 = ((zi 0)) then zrZ c25.1 ((zi 0)) else (zgR 5 3 c25.1 x0).bind fun v26 => (zgR 7 4 c25.1 v26).bind fun v27 => (zgI 5 7 c25.1 x0).bind fun v28 => (zsI c25.1 v27 v2 v28).bind fun σ29 => jX5_readSource_140 σ29 x0) else jX5_readSource_140 c17.1 x0))))))) else (zck 5 σ x0 (fX5_refuse σ x0 ((zi 4)))).bind fun c37 => zrZ c37.1 c37.2)
def fX5_readSemicolon (σ : zS) (x0 : Nat) : Option (zS × Int32) :=
  (zgI 5 4 σ x0).bind fun v1 => (if v1 = ((zi 3)) then (zck 5 σ x0 (fX5_advance σ x0 )).bind fun c2 => zrZ c2 ((zi 1)) else (zck 5 σ x0 (fX5_refuse σ x0 ((zi 1)))).bind fun c3 => zrZ c3.1 c3.2)
def jX5_readSetting_27 (σ : zS) (x0 : Nat)  : Option (zS × Int32) :=
  (zck 5 σ x0 (fX5_refuse σ x0 ((zi 3)))).bind fun c2 => zrZ c2.1 c2.2
def fX5_readSetting (σ : zS) (x0 : Nat) (x1 : Nat) : Option (zS × Int32) :=
  (zwI 0 x1).bind fun v1 => (if v1 < ((zi 0)) then jX5_readSetting_27 σ x0 else (if ((zi 5)) ≤ v1 then jX5_readSetting_27 σ x0 else (zgR 5 3 σ x0).bind fun v3 => (zgR 7 7 σ v3).bind fun v4 => (zaI σ v4 v1).bind fun v5 => (if v5 = ((zi (-1))) then (zck 5 σ x0 (fX5_advance σ x0 )).bind fun c6 => (zwE x1 8).bind fun v7 => (if v7 = 1 then (zgR 5 3 c6 x0).bind fun v14 => (zgR 7 7 c6 v14).bind fun v15 => (zsI c6 v15 v1 ((zi 1))).bind fun σ16 => zrZ σ16 ((zi 1)) else (zck 5 c6 x0 (fX5_readNumber c6 x0 x1)).bind fun c8 => (if c8.2 = ((zi 0)) then zrZ c8.1 ((zi 0)) else (zgR 5 3 c8.1 x0).bind fun v9 => (zgR 7 7 c8.1 v9).bind fun v10 => (zgI 5 7 c8.1 x0).bind fun v11 => (zsI c8.1 v10 v1 v11).bind fun σ12 => zrZ σ12 ((zi 1)))) else jX5_readSetting_27 σ x0)))
def jX5_readStatement_44 (σ : zS) (x0 : Nat)  : Option (zS × Int32) :=
  (zck 5 σ x0 (fX5_refuse σ x0 ((zi 1)))).bind fun c4 => zrZ c4.1 c4.2
def fX5_readStatement (σ : zS) (x0 : Nat) : Option (zS × Int32) :=
  (zck 5 σ x0 (fX5_quotedWord σ x0 )).bind fun c1 => (match c1.2 with | none => jX5_readStatement_44 c1.1 x0 | some a2 => (zwE a2 0).bind fun v5 => (if v5 = 1 then (zck 5 c1.1 x0 (fX5_readSource c1.1 x0 )).bind fun c12 => (if c12.2 = ((zi 0)) then zrZ c12.1 ((zi 0)) else (zck 5 c12.1 x0 (fX5_readSemicolon c12.1 x0 )).bind fun c13 => (if c13.2 = ((zi 0)) then zrZ c13.1 ((zi 0)) else zrZ c13.1 ((zi 1)))) else (zwI 0 a2).bind fun v6 => (if v6 = ((zi (-1))) then jX5_readStatement_44 c1.1 x0 else (zck 5 c1.1 x0 (fX5_readSetting c1.1 x0 a2)).bind fun c7 => (if c7.2 = ((zi 0)) then zrZ c7.1 ((zi 0)) else (zck 5 c7.1 x0 (fX5_readSemicolon c7.1 x0 )).bind fun c8 => (if c8.2 = ((zi 0)) then zrZ c8.1 ((zi 0)) else zrZ c8.1 ((zi 1)))))))
def sX7_makeRecords_9b (x0 : Nat) (x1 : Int32) (x2 : Int32) (σ : zS) (u3 : Int32) : Option ((zS × Int32) ⊕ zS) :=
  (zgR 7 2 σ x0).bind fun v3 => (zaI σ v3 x1).bind fun v4 => (if v4 ≤ u3 then some (.inr σ) else (if ((zi 200)) ≤ u3 then some (.inr σ) else (fX9_numberOf σ x1 u3).bind fun c5 => (zgR 7 8 c5.1 x0).bind fun v6 => (zsI c5.1 v6 c5.2 ((((zi 4)) * (((x2 + (u3 * u3)) + (u3 / ((zi 2)))) - ((x2 + (u3 * u3)) + (u3 / ((zi 2)))) / ((zi 4)) * ((zi 4)))) + x1)).bind fun σ7 => (zgR 7 9 σ7 x0).bind fun v8 => (zsI σ7 v8 c5.2 (((x2 + (((zi 7)) * u3)) - (x2 + (((zi 7)) * u3)) / ((zi 50)) * ((zi 50))) + ((zi 1)))).bind fun σ9 => some (.inl (σ9, u3 + (zi 1)))))
def sX7_makeRecords_9 (x0 : Nat) (x1 : Int32) (x2 : Int32) (z : (zS × Int32)) : Option ((zS × Int32) ⊕ zS) := sX7_makeRecords_9b x0 x1 x2 z.1 z.2
def fX7_makeRecords (σ : zS) (x0 : Nat) (x1 : Int32) : Option zS :=
  (zgR 7 3 σ x0).bind fun v1 => (zaI σ v1 x1).bind fun v2 => (zloop (sX7_makeRecords_9 x0 x1 v2) zfuel (σ, (zi 0))).bind fun o12 => some o12
def jX7_makeResults_69_L13 (σ : zS) (x0 : Nat) (x1 : Int32) (x2 : Int32) (x3 : Int32) (x4 : Int32)  : Option ((zS × Int32 × Int32) ⊕ zS) :=
  some (.inl (σ, x3, x4 + (zi 1)))
def sX7_makeResults_13b (x0 : Nat) (x1 : Int32) (x2 : Int32) (σ : zS) (u3 : Int32) (u4 : Int32) : Option ((zS × Int32 × Int32) ⊕ zS) :=
  (zgR 7 2 σ x0).bind fun v1 => (zaI σ v1 x1).bind fun v2 => (if v2 ≤ u4 then some (.inr σ) else (if ((zi 200)) ≤ u4 then some (.inr σ) else (fX9_numberOf σ x1 u4).bind fun c3 => (zgR 7 8 c3.1 x0).bind fun v4 => (zaI c3.1 v4 c3.2).bind fun v5 => (if v5 = x2 then (zgR 7 9 c3.1 x0).bind fun v6 => (zaI c3.1 v6 c3.2).bind fun v7 => (zgR 7 10 c3.1 x0).bind fun v8 => (zsI c3.1 v8 c3.2 (u3 + v7)).bind fun σ9 => jX7_makeResults_69_L13 σ9 x0 x1 x2 (u3 + v7) u4 else jX7_makeResults_69_L13 c3.1 x0 x1 x2 u3 u4)))
def sX7_makeResults_13 (x0 : Nat) (x1 : Int32) (x2 : Int32) (z : (zS × Int32 × Int32)) : Option ((zS × Int32 × Int32) ⊕ zS) := sX7_makeResults_13b x0 x1 x2 z.1 z.2.1 z.2.2
def jX7_makeResults_75_L2 (σ : zS) (x0 : Nat) (x1 : Int32) (x2 : Int32)  : Option ((zS × Int32) ⊕ zS) :=
  some (.inl (σ, x2 + (zi 4)))
def sX7_makeResults_2b (x0 : Nat) (x1 : Int32) (σ : zS) (u2 : Int32) : Option ((zS × Int32) ⊕ zS) :=
  (if ((zi 16)) ≤ u2 then some (.inr σ) else (zloop (sX7_makeResults_13 x0 x1 u2) zfuel (σ, (zi 0), (zi 0))).bind fun o13 => jX7_makeResults_75_L2 o13 x0 x1 u2)
def sX7_makeResults_2 (x0 : Nat) (x1 : Int32) (z : (zS × Int32)) : Option ((zS × Int32) ⊕ zS) := sX7_makeResults_2b x0 x1 z.1 z.2
def fX7_makeResults (σ : zS) (x0 : Nat) (x1 : Int32) : Option zS :=
  (zloop (sX7_makeResults_2 x0 x1) zfuel (σ, x1)).bind fun o15 => some o15
def sX7_finish_13b (x0 : Nat) (σ : zS) (u1 : Int32) : Option ((zS × Int32) ⊕ zS) :=
  (zgI 7 0 σ x0).bind fun v3 => (if v3 ≤ u1 then some (.inr σ) else (zck 7 σ x0 (fX7_makeRecords σ x0 u1)).bind fun c4 => (zck 7 c4 x0 (fX7_makeResults c4 x0 u1)).bind fun c5 => some (.inl (c5, u1 + (zi 1))))
def sX7_finish_13 (x0 : Nat) (z : (zS × Int32)) : Option ((zS × Int32) ⊕ zS) := sX7_finish_13b x0 z.1 z.2
def fX7_finish (σ : zS) (x0 : Nat) : Option zS :=
  (zck 7 σ x0 (fX7_chosen σ x0 5)).bind fun c1 => (zpI 7 1 c1.1 x0 c1.2).bind fun σ2 => (zloop (sX7_finish_13 x0) zfuel (σ2, (zi 0))).bind fun o7 => some o7
def sX5_read_33b (x0 : Nat) (σ : zS) (u2 : Int32) : Option ((zS × Int32) ⊕ (zS ⊕ zS)) :=
  (if ((zi 300)) ≤ u2 then some (.inr (.inr σ)) else (zgI 5 4 σ x0).bind fun v8 => (if v8 = ((zi 0)) then some (.inr (.inr σ)) else (zck 5 σ x0 (fX5_readStatement σ x0 )).bind fun c9 => (if c9.2 = ((zi 0)) then some (.inr (.inl c9.1)) else some (.inl (c9.1, u2 + (zi 1))))))
def sX5_read_33 (x0 : Nat) (z : (zS × Int32)) : Option ((zS × Int32) ⊕ (zS ⊕ zS)) := sX5_read_33b x0 z.1 z.2
def jX5_read_62 (σ : zS) (x0 : Nat)  : Option (zS × Int32) :=
  (zgR 5 3 σ x0).bind fun v16 => (zgI 7 0 σ v16).bind fun v17 => (if v17 = ((zi 0)) then (zck 5 σ x0 (fX5_refuse σ x0 ((zi 5)))).bind fun c20 => zrZ c20.1 c20.2 else (zgR 5 3 σ x0).bind fun v18 => (zck 7 σ v18 (fX7_finish σ v18 )).bind fun c19 => zrZ c19 ((zi 1)))
def fX5_read (σ : zS) (x0 : Nat) (x1 : Nat) : Option (zS × Int32) :=
  (zpR 5 3 σ x0 (some x1)).bind fun σ1 => (zgR 5 3 σ1 x0).bind fun v2 => (zck 7 σ1 v2 (fX7_clear σ1 v2 )).bind fun c3 => (zpI 5 0 c3 x0 ((zi 0))).bind fun σ4 => (zpI 5 1 σ4 x0 ((zi (-1)))).bind fun σ5 => (zpI 5 6 σ5 x0 ((zi 0))).bind fun σ6 => (zck 5 σ6 x0 (fX5_advance σ6 x0 )).bind fun c7 => (zloop (sX5_read_33 x0) zfuel (c7, (zi 0))).bind fun o13 => (match o13 with | (.inl z14) => zrZ z14 ((zi 0)) | (.inr z15) => jX5_read_62 z15 x0)
def fX6_forget (σ : zS) (x0 : Nat) : Option zS :=
  (zpI 6 0 σ x0 ((zi 0))).bind fun σ1 => some σ1
def jX6_remember_22 (σ : zS) (x0 : Nat) (x1 : Nat) (y0 : Int32) (y1 : Nat) : Option zS :=
  (zpI 6 1 σ y1 y0).bind fun σ2 => (zgI 6 0 σ2 x0).bind fun v3 => (zpI 6 0 σ2 x0 (if ((zi 6)) < (v3 + ((zi 1))) then ((zi 6)) else (v3 + ((zi 1))))).bind fun σ4 => (zgR 6 2 σ4 x0).bind fun v5 => (zgI 6 1 σ4 x0).bind fun v6 => (zaR σ4 v5 v6).bind fun v7 => (match v7 with | none => some σ4 | some a8 => (zck 1 σ4 a8 (fX1_copyFrom σ4 a8 x1)).bind fun c9 => some c9)
def fX6_remember (σ : zS) (x0 : Nat) (x1 : Nat) : Option zS :=
  (zgI 6 1 σ x0).bind fun v1 => (if ((zi 6)) ≤ (v1 + ((zi 1))) then jX6_remember_22 σ x0 x1 ((zi 0)) x0 else (zgI 6 1 σ x0).bind fun v10 => jX6_remember_22 σ x0 x1 (v10 + ((zi 1))) x0)
def jX6_giveBack_45 (σ : zS) (x0 : Nat) (y0 : Int32) (y1 : Nat) : Option zS :=
  (zpI 6 1 σ y1 y0).bind fun σ10 => (zgI 6 0 σ10 x0).bind fun v11 => (zpI 6 0 σ10 x0 (v11 - ((zi 1)))).bind fun σ12 => some σ12
def fX6_giveBack (σ : zS) (x0 : Nat) (x1 : Nat) : Option zS :=
  (zgR 6 2 σ x0).bind fun v1 => (zgI 6 1 σ x0).bind fun v2 => (zaR σ v1 v2).bind fun v3 => (match v3 with | none => (zgI 6 0 σ x0).bind fun v5 => (if v5 = ((zi 0)) then some σ else some σ) | some a4 => (zgI 6 0 σ x0).bind fun v7 => (if v7 = ((zi 0)) then some σ else (zck 1 σ x1 (fX1_copyFrom σ x1 a4)).bind fun c8 => (zgI 6 1 c8 x0).bind fun v9 => (if v9 ≤ ((zi 0)) then jX6_giveBack_45 c8 x0 ((zi 5)) x0 else (zgI 6 1 c8 x0).bind fun v13 => jX6_giveBack_45 c8 x0 (v13 - ((zi 1))) x0)))
def fX7_makePlain (σ : zS) (x0 : Nat) : Option zS :=
  (zck 7 σ x0 (fX7_clear σ x0 )).bind fun c1 => (zpI 7 0 c1 x0 ((zi 1))).bind fun σ2 => (zgR 7 6 σ2 x0).bind fun v3 => (zsB σ2 v3 ((zi 0)) ((zi 97))).bind fun σ4 => (zgR 7 5 σ4 x0).bind fun v5 => (zsI σ4 v5 ((zi 0)) ((zi 1))).bind fun σ6 => (zck 7 σ6 x0 (fX7_finish σ6 x0 )).bind fun c7 => some c7
def fX7_resultOf (σ : zS) (x0 : Nat) (x1 : Int32) : Option (zS × Int32) :=
  (if x1 < ((zi 0)) then some (σ, (zi 0)) else (if ((zi 800)) ≤ x1 then some (σ, (zi 0)) else (zgR 7 10 σ x0).bind fun v1 => (zaI σ v1 x1).bind fun v2 => some (σ, v2)))
def jX7_resultBehind_62_L10 (σ : zS) (x0 : Nat) (x1 : Int32) (x3 : Int32) (x4 : Int32) (x5 : Int32)  : Option ((zS × Int32 × Int32) ⊕ ((zS × Int32) ⊕ zS)) :=
  some (.inl (σ, x4, x5 + (zi 1)))
def sX7_resultBehind_10b (x0 : Nat) (x1 : Int32) (x3 : Int32) (σ : zS) (u4 : Int32) (u5 : Int32) : Option ((zS × Int32 × Int32) ⊕ ((zS × Int32) ⊕ zS)) :=
  (zgI 7 0 σ x0).bind fun v1 => (if v1 ≤ x3 then some (.inr (.inr σ)) else (zgR 7 2 σ x0).bind fun v2 => (zaI σ v2 x3).bind fun v3 => (if v3 ≤ u5 then some (.inr (.inr σ)) else (fX9_numberOf σ x3 u5).bind fun c4 => (zck 7 c4.1 x0 (fX7_keyOf c4.1 x0 c4.2)).bind fun c5 => (if c5.2 = x1 then (if (u4 + (zi (-1))) = ((zi 0)) then some (.inr (.inl (c5.1, c4.2))) else jX7_resultBehind_62_L10 c5.1 x0 x1 x3 (u4 + (zi (-1))) u5) else jX7_resultBehind_62_L10 c5.1 x0 x1 x3 u4 u5)))
def sX7_resultBehind_10 (x0 : Nat) (x1 : Int32) (x3 : Int32) (z : (zS × Int32 × Int32)) : Option ((zS × Int32 × Int32) ⊕ ((zS × Int32) ⊕ zS)) := sX7_resultBehind_10b x0 x1 x3 z.1 z.2.1 z.2.2
def fX7_resultBehind (σ : zS) (x0 : Nat) (x1 : Int32) (x2 : Int32) : Option (zS × Int32) :=
  (zloop (sX7_resultBehind_10 x0 x1 (x1 - x1 / ((zi 4)) * ((zi 4)))) zfuel (σ, x2, (zi 0))).bind fun o10 => (match o10 with | (.inl z11) => (zck 7 z11.1 x0 (fX7_resultOf z11.1 x0 z11.2)).bind fun c12 => some (c12.1, c12.2) | (.inr z13) => some (z13, (zi (-1))))
def fX9_feed (σ : zS) (x0 : Nat) (x1 : Int32) (x2 : Int32) (x3 : Int32) (x4 : Int32) (x5 : Int32) : Option (zS × Int32) :=
  (zgR 8 0 σ x0).bind fun v1 => (zgI 2 1 σ v1).bind fun v2 => (if (v2 + ((zi 20))) ≤ ((zi 300)) then (zgR 8 0 σ x0).bind fun v3 => (zck 2 σ v3 (fX2_addFourBytes σ v3 x1)).bind fun c4 => (zgR 8 0 c4 x0).bind fun v5 => (zck 2 c4 v5 (fX2_addFourBytes c4 v5 x2)).bind fun c6 => (zgR 8 0 c6 x0).bind fun v7 => (zck 2 c6 v7 (fX2_addFourBytes c6 v7 x3)).bind fun c8 => (zgR 8 0 c8 x0).bind fun v9 => (zck 2 c8 v9 (fX2_addFourBytes c8 v9 x4)).bind fun c10 => (zgR 8 0 c10 x0).bind fun v11 => (zck 2 c10 v11 (fX2_addFourBytes c10 v11 x5)).bind fun c12 => (zgR 8 0 c12 x0).bind fun v13 => (zgI 2 1 c12 v13).bind fun v14 => some (c12, v14) else some (σ, (zi (-1))))
def fX9_truncate (σ : zS) (x0 : Nat) (x1 : Int32) : Option (zS × Int32) :=
  (if x1 < ((zi 0)) then zrZ σ ((zi 0)) else (zgR 8 0 σ x0).bind fun v1 => (zgI 2 1 σ v1).bind fun v2 => (if x1 ≤ v2 then (zgR 8 0 σ x0).bind fun v3 => (zpI 2 1 σ v3 x1).bind fun σ4 => zrZ σ4 ((zi 1)) else zrZ σ ((zi 0))))
def fX9_parse (σ : zS) (x0 : Nat) : Option (zS × Int32) :=
  (zgR 8 1 σ x0).bind fun v1 => (zgR 8 9 σ x0).bind fun v2 => (zck 5 σ v1 (fX5_read σ v1 v2)).bind fun c3 => (zgR 8 0 c3.1 x0).bind fun v4 => (zpI 2 1 c3.1 v4 ((zi 0))).bind fun σ5 => (if c3.2 = ((zi 0)) then some (σ5, (zi (-1))) else (zgR 8 8 σ5 x0).bind fun v6 => (zgR 8 9 σ5 x0).bind fun v7 => (zpR 8 8 σ5 x0 (some v7)).bind fun σ8 => (zpR 8 9 σ8 x0 (some v6)).bind fun σ9 => (zgR 8 4 σ9 x0).bind fun v10 => (zgR 8 8 σ9 x0).bind fun v11 => (zck 1 σ9 v10 (fX1_start σ9 v10 v11)).bind fun c12 => (zgR 8 3 c12 x0).bind fun v13 => (zck 6 c12 v13 (fX6_forget c12 v13 )).bind fun c14 => (zpZ 8 7 c14 x0 ((zi 0))).bind fun σ15 => (zgR 8 8 σ15 x0).bind fun v16 => (zgI 7 0 σ15 v16).bind fun v17 => some (σ15, v17))
def fX9_errorCode (σ : zS) (x0 : Nat) : Option (zS × Int32) :=
  (zgR 8 1 σ x0).bind fun v1 => (zgI 5 0 σ v1).bind fun v2 => some (σ, v2)
def fX9_errorOffset (σ : zS) (x0 : Nat) : Option (zS × Int32) :=
  (zgR 8 1 σ x0).bind fun v1 => (zgI 5 1 σ v1).bind fun v2 => some (σ, v2)
def fX9_count (σ : zS) (x0 : Nat) (x1 : Int32) : Option (zS × Int32) :=
  (if x1 = (zi 0) then (zgR 8 8 σ x0).bind fun v2 => (zgI 7 0 σ v2).bind fun v3 => some (σ, v3) else (if x1 = (zi 1) then (zgR 8 4 σ x0).bind fun v5 => (zgI 1 0 σ v5).bind fun v6 => some (σ, v6) else (if x1 = (zi 2) then (zgR 8 8 σ x0).bind fun v8 => (zgI 7 1 σ v8).bind fun v9 => some (σ, v9) else (if x1 = (zi 3) then (zgR 8 4 σ x0).bind fun v11 => (zgI 1 1 σ v11).bind fun v12 => some (σ, v12) else (if x1 = (zi 4) then (zgR 8 4 σ x0).bind fun v14 => (zgI 1 2 σ v14).bind fun v15 => some (σ, v15) else (if x1 = (zi 5) then (zgR 8 4 σ x0).bind fun v17 => (zgI 1 4 σ v17).bind fun v18 => some (σ, v18) else (if x1 = (zi 6) then (zgR 8 4 σ x0).bind fun v20 => (zgI 1 5 σ v20).bind fun v21 => some (σ, v21) else (if x1 = (zi 7) then (zgR 8 4 σ x0).bind fun v23 => (zgI 1 6 σ v23).bind fun v24 => some (σ, v24) else (if x1 = (zi 8) then (zgR 8 4 σ x0).bind fun v26 => (zgI 1 7 σ v26).bind fun v27 => some (σ, v27) else (if x1 = (zi 9) then (zgR 8 4 σ x0).bind fun v29 => (zgI 1 8 σ v29).bind fun v30 => some (σ, v30) else (if x1 = (zi 10) then (zgR 8 3 σ x0).bind fun v32 => (zgI 6 0 σ v32).bind fun v33 => some (σ, v33) else (if x1 = (zi 11) then (zgR 8 4 σ x0).bind fun v35 => (zgI 1 3 σ v35).bind fun v36 => (if v36 = ((zi 0)) then some (σ, (zi 0)) else some (σ, (zi 1))) else some (σ, (zi (-1)))))))))))))))
def fX9_find (σ : zS) (x0 : Nat) : Option (zS × Int32) :=
  (zgR 8 8 σ x0).bind fun v1 => (zgR 8 0 σ x0).bind fun v2 => (zgR 2 0 σ v2).bind fun v3 => (zgR 8 0 σ x0).bind fun v4 => (zgI 2 1 σ v4).bind fun v5 => (zck 7 σ v1 (fX7_named σ v1 v3 ((zi 0)) v5)).bind fun c6 => (zgR 8 0 c6.1 x0).bind fun v7 => (zpI 2 1 c6.1 v7 ((zi 0))).bind fun σ8 => some (σ8, c6.2)
def jX9_groupsOf_22_L4 (σ : zS) (x0 : Int32) (x1 : Int32) (x2 : Int32) (x3 : Int32)  : Option ((zS × Int32 × Int32) ⊕ (zS × Int32)) :=
  some (.inl (σ, x2, x3 + (zi 1)))
def sX9_groupsOf_4b (x0 : Int32) (x1 : Int32) (σ : zS) (u2 : Int32) (u3 : Int32) : Option ((zS × Int32 × Int32) ⊕ (zS × Int32)) :=
  (if ((zi 8)) ≤ u3 then some (.inr (σ, u2)) else (fX9_ownerOf σ u3 x1).bind fun c1 => (if c1.2 = x0 then jX9_groupsOf_22_L4 c1.1 x0 x1 (u2 + (zi 1)) u3 else jX9_groupsOf_22_L4 c1.1 x0 x1 u2 u3))
def sX9_groupsOf_4 (x0 : Int32) (x1 : Int32) (z : (zS × Int32 × Int32)) : Option ((zS × Int32 × Int32) ⊕ (zS × Int32)) := sX9_groupsOf_4b x0 x1 z.1 z.2.1 z.2.2
def fX9_groupsOf (σ : zS) (x0 : Int32) (x1 : Int32) : Option (zS × Int32) :=
  (zloop (sX9_groupsOf_4 x0 x1) zfuel (σ, (zi 0), (zi 0))).bind fun o4 => some (o4.1, o4.2)
def fX9_atRisk (σ : zS) (x0 : Nat) : Option (zS × Int32) :=
  (zgR 8 4 σ x0).bind fun v1 => (zck 1 σ v1 (fX1_recordsAtRisk σ v1 )).bind fun c2 => some (c2.1, c2.2)
def jX9_fullest_67_L20 (σ : zS) (x0 : Nat) (x1 : Int32) (x2 : Int32) (x3 : Int32) (x4 : Int32)  : Option ((zS × Int32 × Int32 × Int32) ⊕ (zS × Int32 × Int32)) :=
  some (.inl (σ, x1, x2, x4 + (zi 1)))
def sX9_fullest_20b (x0 : Nat) (x3 : Int32) (σ : zS) (u1 : Int32) (u2 : Int32) (u4 : Int32) : Option ((zS × Int32 × Int32 × Int32) ⊕ (zS × Int32 × Int32)) :=
  (zgR 8 4 σ x0).bind fun v3 => (zgI 1 0 σ v3).bind fun v4 => (if v4 ≤ u4 then some (.inr (σ, u1, u2)) else (zgR 8 4 σ x0).bind fun v5 => (zgR 1 14 σ v5).bind fun v6 => (fX9_channel σ u4 x3).bind fun c7 => (zck 3 c7.1 v6 (fX3_sizeOf c7.1 v6 c7.2)).bind fun c8 => (if c8.2 ≤ u2 then jX9_fullest_67_L20 c8.1 x0 u1 u2 x3 u4 else jX9_fullest_67_L20 c8.1 x0 ((((zi 10)) * x3) + u4) c8.2 x3 u4))
def sX9_fullest_20 (x0 : Nat) (x3 : Int32) (z : (zS × Int32 × Int32 × Int32)) : Option ((zS × Int32 × Int32 × Int32) ⊕ (zS × Int32 × Int32)) := sX9_fullest_20b x0 x3 z.1 z.2.1 z.2.2.1 z.2.2.2
def sX9_fullest_6b (x0 : Nat) (σ : zS) (u1 : Int32) (u2 : Int32) (u3 : Int32) : Option ((zS × Int32 × Int32 × Int32) ⊕ (zS × Int32)) :=
  (zgR 8 8 σ x0).bind fun v1 => (zgI 7 0 σ v1).bind fun v2 => (if v2 ≤ u3 then some (.inr (σ, u1)) else (zloop (sX9_fullest_20 x0 u3) zfuel (σ, u1, u2, (zi 0))).bind fun o11 => some (.inl (o11.1, o11.2.1, o11.2.2, u3 + (zi 1))))
def sX9_fullest_6 (x0 : Nat) (z : (zS × Int32 × Int32 × Int32)) : Option ((zS × Int32 × Int32 × Int32) ⊕ (zS × Int32)) := sX9_fullest_6b x0 z.1 z.2.1 z.2.2.1 z.2.2.2
def fX9_fullest (σ : zS) (x0 : Nat) : Option (zS × Int32) :=
  (zloop (sX9_fullest_6 x0) zfuel (σ, (zi (-1)), (zi 0), (zi 0))).bind fun o13 => some (o13.1, o13.2)
def fX9_fail (σ : zS) (x0 : Nat) : Option (zS × Int32) :=
  (zgR 8 3 σ x0).bind fun v1 => (zgR 8 4 σ x0).bind fun v2 => (zck 6 σ v1 (fX6_remember σ v1 v2)).bind fun c3 => (zgR 8 4 c3 x0).bind fun v4 => (zck 1 c3 v4 (fX1_recordsAtRisk c3 v4 )).bind fun c5 => (zgR 8 4 c5.1 x0).bind fun v6 => (zck 1 c5.1 v6 (fX1_recover c5.1 v6 )).bind fun c7 => some (c7, c5.2)
def jX9_groupsMoved_26_L4 (σ : zS) (x0 : Int32) (x1 : Int32) (x2 : Int32) (x3 : Int32)  : Option ((zS × Int32 × Int32) ⊕ (zS × Int32)) :=
  some (.inl (σ, x2, x3 + (zi 1)))
def sX9_groupsMoved_4b (x0 : Int32) (x1 : Int32) (σ : zS) (u2 : Int32) (u3 : Int32) : Option ((zS × Int32 × Int32) ⊕ (zS × Int32)) :=
  (if ((zi 8)) ≤ u3 then some (.inr (σ, u2)) else (fX9_ownerOf σ u3 x0).bind fun c1 => (fX9_ownerOf c1.1 u3 x1).bind fun c2 => (if c1.2 = c2.2 then jX9_groupsMoved_26_L4 c2.1 x0 x1 u2 u3 else jX9_groupsMoved_26_L4 c2.1 x0 x1 (u2 + (zi 1)) u3))
def sX9_groupsMoved_4 (x0 : Int32) (x1 : Int32) (z : (zS × Int32 × Int32)) : Option ((zS × Int32 × Int32) ⊕ (zS × Int32)) := sX9_groupsMoved_4b x0 x1 z.1 z.2.1 z.2.2
def fX9_groupsMoved (σ : zS) (x0 : Int32) (x1 : Int32) : Option (zS × Int32) :=
  (zloop (sX9_groupsMoved_4 x0 x1) zfuel (σ, (zi 0), (zi 0))).bind fun o5 => some (o5.1, o5.2)
def fX9_wouldTake (σ : zS) (x0 : Nat) (x1 : Int32) : Option (zS × Int32) :=
  (zgR 8 4 σ x0).bind fun v1 => (zgR 1 15 σ v1).bind fun v2 => (zck 0 σ v2 (fX0_exists σ v2 )).bind fun c3 => (if c3.2 = ((zi 0)) then (zgR 8 5 c3.1 x0).bind fun v4 => (zgR 8 4 c3.1 x0).bind fun v5 => (zck 1 c3.1 v4 (fX1_copyFrom c3.1 v4 v5)).bind fun c6 => (zgR 8 5 c6 x0).bind fun v7 => (zck 1 c6 v7 (fX1_startCheckpoint c6 v7 x1)).bind fun c8 => (zgR 8 5 c8 x0).bind fun v9 => (zck 1 c8 v9 (fX1_ticksToCompletion c8 v9 ((zi 500)))).bind fun c10 => some (c10.1, c10.2) else some (c3.1, (zi (-1))))
def fX9_wouldKeep (σ : zS) (x0 : Nat) : Option (zS × Int32) :=
  (zgR 8 4 σ x0).bind fun v1 => (zgR 1 15 σ v1).bind fun v2 => (zck 0 σ v2 (fX0_exists σ v2 )).bind fun c3 => (if c3.2 = ((zi 0)) then (zgR 8 5 c3.1 x0).bind fun v4 => (zgR 8 4 c3.1 x0).bind fun v5 => (zck 1 c3.1 v4 (fX1_copyFrom c3.1 v4 v5)).bind fun c6 => (zgR 8 5 c6 x0).bind fun v7 => (zck 1 c6 v7 (fX1_startCheckpoint c6 v7 ((zi 1)))).bind fun c8 => (zgR 8 5 c8 x0).bind fun v9 => (zck 1 c8 v9 (fX1_ticksToCompletion c8 v9 ((zi 500)))).bind fun c10 => (if c10.2 = ((zi (-1))) then some (c10.1, (zi (-1))) else (zgR 8 5 c10.1 x0).bind fun v11 => (zgR 1 16 c10.1 v11).bind fun v12 => (zgI 0 6 c10.1 v12).bind fun v13 => some (c10.1, v13)) else some (c3.1, (zi (-1))))
def sX9_quietIn_13b (x0 : Nat) (σ : zS) (u1 : Int32) : Option ((zS × Int32) ⊕ ((zS × Int32) ⊕ zS)) :=
  (if ((zi 1000)) ≤ u1 then some (.inr (.inr σ)) else (zgR 8 5 σ x0).bind fun v4 => (zck 1 σ v4 (fX1_isQuiet σ v4 )).bind fun c5 => (if c5.2 = ((zi 0)) then (zgR 8 5 c5.1 x0).bind fun v6 => (zck 1 c5.1 v6 (fX1_tick c5.1 v6 )).bind fun c7 => some (.inl (c7, u1 + (zi 1))) else some (.inr (.inl (c5.1, u1)))))
def sX9_quietIn_13 (x0 : Nat) (z : (zS × Int32)) : Option ((zS × Int32) ⊕ ((zS × Int32) ⊕ zS)) := sX9_quietIn_13b x0 z.1 z.2
def fX9_quietIn (σ : zS) (x0 : Nat) : Option (zS × Int32) :=
  (zgR 8 5 σ x0).bind fun v1 => (zgR 8 4 σ x0).bind fun v2 => (zck 1 σ v1 (fX1_copyFrom σ v1 v2)).bind fun c3 => (zloop (sX9_quietIn_13 x0) zfuel (c3, (zi 0))).bind fun o10 => (match o10 with | (.inl z11) => some (z11.1, z11.2) | (.inr z12) => (zgR 8 5 z12 x0).bind fun v13 => (zck 1 z12 v13 (fX1_isQuiet z12 v13 )).bind fun c14 => (if c14.2 = ((zi 0)) then some (c14.1, (zi (-1))) else some (c14.1, (zi 1000))))
def fX9_outputByte (σ : zS) (x0 : Nat) (x1 : Int32) : Option (zS × Int32) :=
  (if x1 < ((zi 0)) then some (σ, (zi (-1))) else (zgR 8 2 σ x0).bind fun v1 => (zgI 4 1 σ v1).bind fun v2 => (if v2 ≤ x1 then some (σ, (zi (-1))) else (zgR 8 2 σ x0).bind fun v3 => (zgR 4 0 σ v3).bind fun v4 => (zaB σ v4 x1).bind fun v5 => some (σ, v5)))
def fX9_saveState (σ : zS) (x0 : Nat) : Option (zS × Int32) :=
  (zgR 8 6 σ x0).bind fun v1 => (zgR 8 4 σ x0).bind fun v2 => (zck 1 σ v1 (fX1_copyFrom σ v1 v2)).bind fun c3 => (zpZ 8 7 c3 x0 ((zi 1))).bind fun σ4 => (zgR 8 4 σ4 x0).bind fun v5 => (zgI 1 4 σ4 v5).bind fun v6 => some (σ4, v6)
def sX10_clears_17b (x0 : Nat) (σ : zS) (u1 : Int32) : Option ((zS × Int32) ⊕ zS) :=
  (if ((zi 33894)) ≤ u1 then some (.inr σ) else (zgR 9 7 σ x0).bind fun v4 => (zsI σ v4 u1 ((zi 0))).bind fun σ5 => some (.inl (σ5, u1 + (zi 1))))
def sX10_clears_17 (x0 : Nat) (z : (zS × Int32)) : Option ((zS × Int32) ⊕ zS) := sX10_clears_17b x0 z.1 z.2
def sX10_clears_52b (x0 : Nat) (σ : zS) (u1 : Int32) : Option ((zS × Int32) ⊕ zS) :=
  (if ((zi 4)) ≤ u1 then some (.inr σ) else (zgR 9 7 σ x0).bind fun v12 => (zsI σ v12 (((zi 37)) + u1) ((zi (-1)))).bind fun σ13 => some (.inl (σ13, u1 + (zi 1))))
def sX10_clears_52 (x0 : Nat) (z : (zS × Int32)) : Option ((zS × Int32) ⊕ zS) := sX10_clears_52b x0 z.1 z.2
def sX10_clears_75b (x0 : Nat) (σ : zS) (u1 : Int32) : Option ((zS × Int32) ⊕ zS) :=
  (if ((zi 2)) ≤ u1 then some (.inr σ) else (zgR 9 7 σ x0).bind fun v16 => (zsI σ v16 (((zi 41)) + u1) ((zi (-1)))).bind fun σ17 => some (.inl (σ17, u1 + (zi 1))))
def sX10_clears_75 (x0 : Nat) (z : (zS × Int32)) : Option ((zS × Int32) ⊕ zS) := sX10_clears_75b x0 z.1 z.2
def fX10_clears (σ : zS) (x0 : Nat) : Option zS :=
  (zpI 9 24 σ x0 ((zi 0))).bind fun σ1 => (zpI 9 25 σ1 x0 ((zi 1))).bind fun σ2 => (zpI 9 26 σ2 x0 ((zi 0))).bind fun σ3 => (zloop (sX10_clears_17 x0) zfuel (σ3, (zi 0))).bind fun o7 => (zgR 9 7 o7 x0).bind fun v8 => (zsI o7 v8 ((zi 1)) ((zi 1))).bind fun σ9 => (zgR 9 7 σ9 x0).bind fun v10 => (zsI σ9 v10 ((zi 2)) ((zi 4))).bind fun σ11 => (zloop (sX10_clears_52 x0) zfuel (σ11, (zi 0))).bind fun o15 => (zloop (sX10_clears_75 x0) zfuel (o15, (zi 0))).bind fun o19 => some o19
def sX10_copies_2b (x0 : Nat) (x1 : Nat) (σ : zS) (u2 : Int32) : Option ((zS × Int32) ⊕ zS) :=
  (if ((zi 33894)) ≤ u2 then some (.inr σ) else (zaI σ x0 u2).bind fun v1 => (zsI σ x1 u2 v1).bind fun σ2 => some (.inl (σ2, u2 + (zi 1))))
def sX10_copies_2 (x0 : Nat) (x1 : Nat) (z : (zS × Int32)) : Option ((zS × Int32) ⊕ zS) := sX10_copies_2b x0 x1 z.1 z.2
def fX10_copies (σ : zS) (x0 : Nat) (x1 : Nat) : Option zS :=
  (zloop (sX10_copies_2 x0 x1) zfuel (σ, (zi 0))).bind fun o4 => some o4
def sX10_takesDraft_18b (x0 : Nat) (σ : zS) (u1 : Int32) : Option ((zS × Int32) ⊕ zS) :=
  (if ((zi 4)) ≤ u1 then some (.inr σ) else (zgR 9 3 σ x0).bind fun v5 => (zgR 9 27 σ x0).bind fun v6 => (zaI σ v6 u1).bind fun v7 => (zsI σ v5 u1 v7).bind fun σ8 => (zgR 9 4 σ8 x0).bind fun v9 => (zgR 9 28 σ8 x0).bind fun v10 => (zaI σ8 v10 u1).bind fun v11 => (zsI σ8 v9 u1 v11).bind fun σ12 => (zgR 9 5 σ12 x0).bind fun v13 => (zgR 9 29 σ12 x0).bind fun v14 => (zaJ σ12 v14 u1).bind fun v15 => (zsJ σ12 v13 u1 v15).bind fun σ16 => some (.inl (σ16, u1 + (zi 1))))
def sX10_takesDraft_18 (x0 : Nat) (z : (zS × Int32)) : Option ((zS × Int32) ⊕ zS) := sX10_takesDraft_18b x0 z.1 z.2
def fX10_takesDraft (σ : zS) (x0 : Nat) : Option zS :=
  (zgI 9 24 σ x0).bind fun v1 => (zpI 9 1 σ x0 v1).bind fun σ2 => (zgI 9 25 σ2 x0).bind fun v3 => (zpI 9 2 σ2 x0 v3).bind fun σ4 => (zloop (sX10_takesDraft_18 x0) zfuel (σ4, (zi 0))).bind fun o18 => (zgR 9 7 o18 x0).bind fun v19 => (zgR 9 6 o18 x0).bind fun v20 => (fX10_copies o18 v19 v20).bind fun c21 => (zpI 9 12 c21 x0 ((zi 0))).bind fun σ22 => (zpZ 9 13 σ22 x0 ((zi 0))).bind fun σ23 => some σ23
def fX10_thrown (σ : zS) (x0 : Nat) : Option (zS × Int32) :=
  (zgI 9 0 σ x0).bind fun v1 => some (σ, v1)
def fX10_is (σ : zS) (x0 : Nat) (x1 : Int32) : Option (zS × Int32) :=
  (if x1 = ((zi 0)) then (zpI 9 0 σ x0 ((zi 1))).bind fun σ1 => zrZ σ1 x1 else (zpI 9 0 σ x0 ((zi 0))).bind fun σ2 => zrZ σ2 x1)
def fX10_may (σ : zS) (x0 : Nat) (x1 : Int32) (x2 : Int32) : Option (zS × Int32) :=
  (if x1 = ((zi 0)) then (zpI 9 0 σ x0 x2).bind fun σ1 => zrZ σ1 x1 else (zpI 9 0 σ x0 ((zi 0))).bind fun σ2 => zrZ σ2 x1)
def fX10_isIn (σ : zS) (x0 : Int64) (x2 : Int64) (x4 : Int64) : Option (zS × Int32) :=
  (if (lg_cmp x0 x2) < ((zi 0)) then zrZ σ ((zi 0)) else (if ((zi 0)) < (lg_cmp x0 x4) then zrZ σ ((zi 0)) else zrZ σ ((zi 1))))
def fX10_starts (σ : zS) (x0 : Nat) : Option zS :=
  (zgR 9 6 σ x0).bind fun v1 => (zgR 9 8 σ x0).bind fun v2 => (fX10_copies σ v1 v2).bind fun c3 => some c3
def sX10_done_50b (x0 : Nat) (x1 : Int32) (σ : zS) (u2 : Int32) : Option ((zS × Int32) ⊕ zS) :=
  (if ((zi 33894)) ≤ u2 then some (.inr σ) else (zgR 9 11 σ x0).bind fun v2 => (zgI 9 12 σ x0).bind fun v3 => (zgR 9 8 σ x0).bind fun v4 => (zaI σ v4 u2).bind fun v5 => (zsI σ v2 ((((zi 33894)) * v3) + u2) v5).bind fun σ6 => some (.inl (σ6, u2 + (zi 1))))
def sX10_done_50 (x0 : Nat) (x1 : Int32) (z : (zS × Int32)) : Option ((zS × Int32) ⊕ zS) := sX10_done_50b x0 x1 z.1 z.2
def jX10_done_48 (σ : zS) (x0 : Nat) (x1 : Int32)  : Option (zS × Int32) :=
  (zloop (sX10_done_50 x0 x1) zfuel (σ, (zi 0))).bind fun o8 => (zgI 9 12 o8 x0).bind fun v9 => (zpI 9 12 o8 x0 (v9 + ((zi 1)))).bind fun σ10 => some (σ10, x1)
def sX10_done_11b (x0 : Nat) (x1 : Int32) (σ : zS) (u2 : Int32) : Option ((zS × Int32) ⊕ zS) :=
  (if ((zi 169470)) ≤ u2 then some (.inr σ) else (zgR 9 11 σ x0).bind fun v11 => (zgR 9 11 σ x0).bind fun v12 => (zaI σ v12 (u2 + ((zi 33894)))).bind fun v13 => (zsI σ v11 u2 v13).bind fun σ14 => some (.inl (σ14, u2 + (zi 1))))
def sX10_done_11 (x0 : Nat) (x1 : Int32) (z : (zS × Int32)) : Option ((zS × Int32) ⊕ zS) := sX10_done_11b x0 x1 z.1 z.2
def fX10_done (σ : zS) (x0 : Nat) (x1 : Int32) : Option (zS × Int32) :=
  (zgI 9 12 σ x0).bind fun v1 => (if v1 = ((zi 6)) then (zloop (sX10_done_11 x0 x1) zfuel (σ, (zi 0))).bind fun o16 => (zgI 9 12 o16 x0).bind fun v17 => (zpI 9 12 o16 x0 (v17 - ((zi 1)))).bind fun σ18 => jX10_done_48 σ18 x0 x1 else jX10_done_48 σ x0 x1)
def sX10_undo_33b (x0 : Nat) (σ : zS) (u1 : Int32) : Option ((zS × Int32) ⊕ zS) :=
  (if ((zi 33894)) ≤ u1 then some (.inr σ) else (zgR 9 6 σ x0).bind fun v5 => (zgR 9 11 σ x0).bind fun v6 => (zgI 9 12 σ x0).bind fun v7 => (zaI σ v6 ((((zi 33894)) * v7) + u1)).bind fun v8 => (zsI σ v5 u1 v8).bind fun σ9 => some (.inl (σ9, u1 + (zi 1))))
def sX10_undo_33 (x0 : Nat) (z : (zS × Int32)) : Option ((zS × Int32) ⊕ zS) := sX10_undo_33b x0 z.1 z.2
def jX10_undo_13 (σ : zS) (x0 : Nat) (y0 : Int32) (y1 : Nat) : Option (zS × Int32) :=
  (zck 9 σ y1 (fX10_is σ y1 y0)).bind fun c2 => (if c2.2 = ((zi 0)) then some (c2.1, (zi 0)) else (zgI 9 12 c2.1 x0).bind fun v3 => (zpI 9 12 c2.1 x0 (v3 - ((zi 1)))).bind fun σ4 => (zloop (sX10_undo_33 x0) zfuel (σ4, (zi 0))).bind fun o11 => (zgI 9 12 o11 x0).bind fun v12 => some (o11, v12))
def fX10_undo (σ : zS) (x0 : Nat) : Option (zS × Int32) :=
  (zgI 9 12 σ x0).bind fun v1 => (if v1 ≤ ((zi 0)) then jX10_undo_13 σ x0 ((zi 0)) x0 else jX10_undo_13 σ x0 ((zi 1)) x0)
def fX10_saveState (σ : zS) (x0 : Nat) : Option (zS × Int32) :=
  (zpI 9 0 σ x0 ((zi 0))).bind fun σ1 => (zgR 9 6 σ1 x0).bind fun v2 => (zgR 9 10 σ1 x0).bind fun v3 => (fX10_copies σ1 v2 v3).bind fun c4 => (zpZ 9 13 c4 x0 ((zi 1))).bind fun σ5 => (zgR 9 6 σ5 x0).bind fun v6 => (zaI σ5 v6 ((zi 0))).bind fun v7 => some (σ5, v7)
def fX10_restoreState (σ : zS) (x0 : Nat) : Option (zS × Int32) :=
  (zgI 9 13 σ x0).bind fun v1 => (zck 9 σ x0 (fX10_is σ x0 v1)).bind fun c2 => (if c2.2 = ((zi 0)) then some (c2.1, (zi 0)) else (zgR 9 10 c2.1 x0).bind fun v3 => (zgR 9 6 c2.1 x0).bind fun v4 => (fX10_copies c2.1 v3 v4).bind fun c5 => (zpI 9 12 c5 x0 ((zi 0))).bind fun σ6 => (zgR 9 6 σ6 x0).bind fun v7 => (zaI σ6 v7 ((zi 0))).bind fun v8 => some (σ6, v8))
def fX10_tries (σ : zS) (x0 : Nat) : Option zS :=
  (zgR 9 6 σ x0).bind fun v1 => (zgR 9 9 σ x0).bind fun v2 => (fX10_copies σ v1 v2).bind fun c3 => some c3
def fX10_laysBack (σ : zS) (x0 : Nat) (x1 : Int32) : Option (zS × Int32) :=
  (zgR 9 9 σ x0).bind fun v1 => (zgR 9 6 σ x0).bind fun v2 => (fX10_copies σ v1 v2).bind fun c3 => some (c3, x1)
def fX10_adds (σ : zS) (x0 : Nat) (x1 : Int32) (x2 : Int32) : Option zS :=
  (zgR 9 6 σ x0).bind fun v1 => (zgR 9 6 σ x0).bind fun v2 => (zaI σ v2 x1).bind fun v3 => (zsI σ v1 x1 (v3 + ((zi 1)))).bind fun σ4 => (zgR 9 6 σ4 x0).bind fun v5 => (zgR 9 6 σ4 x0).bind fun v6 => (zaI σ4 v6 x1).bind fun v7 => (zsI σ4 v5 (x1 + v7) x2).bind fun σ8 => some σ8
def fX10_at (σ : zS) (x0 : Nat) (x1 : Int32) (x2 : Int32) : Option (zS × Int32) :=
  (zgR 9 6 σ x0).bind fun v1 => (zaI σ v1 ((x1 + ((zi 1))) + x2)).bind fun v2 => some (σ, v2)
def sX10_removes_16b (x0 : Nat) (x1 : Int32) (σ : zS) (u3 : Int32) : Option ((zS × Int32) ⊕ zS) :=
  (zgR 9 6 σ x0).bind fun v5 => (zaI σ v5 x1).bind fun v6 => (if v6 ≤ u3 then some (.inr σ) else (zgR 9 6 σ x0).bind fun v7 => (zgR 9 6 σ x0).bind fun v8 => (zaI σ v8 ((x1 + ((zi 2))) + u3)).bind fun v9 => (zsI σ v7 ((x1 + ((zi 1))) + u3) v9).bind fun σ10 => some (.inl (σ10, u3 + (zi 1))))
def sX10_removes_16 (x0 : Nat) (x1 : Int32) (z : (zS × Int32)) : Option ((zS × Int32) ⊕ zS) := sX10_removes_16b x0 x1 z.1 z.2
def fX10_removes (σ : zS) (x0 : Nat) (x1 : Int32) (x2 : Int32) : Option zS :=
  (zgR 9 6 σ x0).bind fun v1 => (zgR 9 6 σ x0).bind fun v2 => (zaI σ v2 x1).bind fun v3 => (zsI σ v1 x1 (v3 - ((zi 1)))).bind fun σ4 => (zloop (sX10_removes_16 x0 x1) zfuel (σ4, x2)).bind fun o12 => some o12
def fX10_empties (σ : zS) (x0 : Nat) (x1 : Int32) : Option zS :=
  (zgR 9 6 σ x0).bind fun v1 => (zsI σ v1 x1 ((zi 0))).bind fun σ2 => some σ2
def sX10_addsAll_2b (x0 : Nat) (x1 : Int32) (x2 : Int32) (σ : zS) (u3 : Int32) : Option ((zS × Int32) ⊕ zS) :=
  (zgR 9 6 σ x0).bind fun v1 => (zaI σ v1 x1).bind fun v2 => (if v2 ≤ u3 then some (.inr σ) else (zck 9 σ x0 (fX10_at σ x0 x1 u3)).bind fun c3 => (zck 9 c3.1 x0 (fX10_adds c3.1 x0 x2 c3.2)).bind fun c4 => some (.inl (c4, u3 + (zi 1))))
def sX10_addsAll_2 (x0 : Nat) (x1 : Int32) (x2 : Int32) (z : (zS × Int32)) : Option ((zS × Int32) ⊕ zS) := sX10_addsAll_2b x0 x1 x2 z.1 z.2
def fX10_addsAll (σ : zS) (x0 : Nat) (x1 : Int32) (x2 : Int32) : Option zS :=
  (zloop (sX10_addsAll_2 x0 x1 x2) zfuel (σ, (zi 0))).bind fun o6 => some o6
def fX10_becomes (σ : zS) (x0 : Nat) (x1 : Int32) (x2 : Int32) : Option zS :=
  (zck 9 σ x0 (fX10_empties σ x0 x1)).bind fun c1 => (zck 9 c1 x0 (fX10_addsAll c1 x0 x2 x1)).bind fun c2 => some c2
def sX10_barrierIn_2b (x0 : Nat) (x1 : Int32) (σ : zS) (u2 : Int32) : Option ((zS × Int32) ⊕ ((zS × Int32) ⊕ zS)) :=
  (zgR 9 6 σ x0).bind fun v1 => (zaI σ v1 x1).bind fun v2 => (if v2 ≤ u2 then some (.inr (.inr σ)) else (zck 9 σ x0 (fX10_at σ x0 x1 u2)).bind fun c3 => (if c3.2 = ((zi (-1))) then some (.inr (.inl (c3.1, u2))) else some (.inl (c3.1, u2 + (zi 1)))))
def sX10_barrierIn_2 (x0 : Nat) (x1 : Int32) (z : (zS × Int32)) : Option ((zS × Int32) ⊕ ((zS × Int32) ⊕ zS)) := sX10_barrierIn_2b x0 x1 z.1 z.2
def fX10_barrierIn (σ : zS) (x0 : Nat) (x1 : Int32) : Option (zS × Int32) :=
  (zloop (sX10_barrierIn_2 x0 x1) zfuel (σ, (zi 0))).bind fun o6 => (match o6 with | (.inl z7) => some (z7.1, z7.2) | (.inr z8) => some (z8, (zi (-1))))
def jX10_barriers_28_L4 (σ : zS) (x0 : Nat) (x1 : Int32) (x2 : Int32) (x3 : Int32)  : Option ((zS × Int32 × Int32) ⊕ (zS × Int32)) :=
  some (.inl (σ, x2, x3 + (zi 1)))
def sX10_barriers_4b (x0 : Nat) (x1 : Int32) (σ : zS) (u2 : Int32) (u3 : Int32) : Option ((zS × Int32 × Int32) ⊕ (zS × Int32)) :=
  (zgR 9 6 σ x0).bind fun v1 => (zaI σ v1 x1).bind fun v2 => (if v2 ≤ u3 then some (.inr (σ, u2)) else (zck 9 σ x0 (fX10_at σ x0 x1 u3)).bind fun c3 => (if c3.2 = ((zi (-1))) then jX10_barriers_28_L4 c3.1 x0 x1 (u2 + ((zi 1))) u3 else jX10_barriers_28_L4 c3.1 x0 x1 u2 u3))
def sX10_barriers_4 (x0 : Nat) (x1 : Int32) (z : (zS × Int32 × Int32)) : Option ((zS × Int32 × Int32) ⊕ (zS × Int32)) := sX10_barriers_4b x0 x1 z.1 z.2.1 z.2.2
def fX10_barriers (σ : zS) (x0 : Nat) (x1 : Int32) : Option (zS × Int32) :=
  (zloop (sX10_barriers_4 x0 x1) zfuel (σ, (zi 0), (zi 0))).bind fun o6 => some (o6.1, o6.2)
def fX10_things (σ : zS) (x0 : Nat) (x1 : Int32) : Option (zS × Int32) :=
  (zgR 9 6 σ x0).bind fun v1 => (zaI σ v1 x1).bind fun v2 => (zck 9 σ x0 (fX10_barriers σ x0 x1)).bind fun c3 => some (c3.1, v2 - c3.2)
def fX10_isFull (σ : zS) (x0 : Nat) (x1 : Int32) : Option (zS × Int32) :=
  (zck 9 σ x0 (fX10_things σ x0 x1)).bind fun c1 => (zgR 9 6 c1.1 x0).bind fun v2 => (zaI c1.1 v2 ((zi 2))).bind fun v3 => (if c1.2 < v3 then zrZ c1.1 ((zi 0)) else zrZ c1.1 ((zi 1)))
def fX10_channelIn (σ : zS) (x0 : Int32) (x1 : Int32) : Option (zS × Int32) :=
  some (σ, (((zi 4)) * x0) + x1)
def fX10_channelOut (σ : zS) (x0 : Int32) (x1 : Int32) : Option (zS × Int32) :=
  some (σ, (((zi 2)) * x0) + x1)
def fX10_toInstance (σ : zS) (x0 : Int32) (x1 : Int32) : Option (zS × Int32) :=
  (fX10_channelIn σ x0 x1).bind fun c1 => some (c1.1, ((zi 144)) + (((zi 202)) * c1.2))
def fX10_toSink (σ : zS) (x0 : Int32) (x1 : Int32) : Option (zS × Int32) :=
  (fX10_channelOut σ x0 x1).bind fun c1 => some (c1.1, ((zi 3376)) + (((zi 802)) * c1.2))
def fX10_keptIn (σ : zS) (x0 : Int32) (x1 : Int32) : Option (zS × Int32) :=
  (fX10_channelIn σ x0 x1).bind fun c1 => some (c1.1, ((zi 14598)) + (((zi 202)) * c1.2))
def fX10_keptOut (σ : zS) (x0 : Int32) (x1 : Int32) : Option (zS × Int32) :=
  (fX10_channelOut σ x0 x1).bind fun c1 => some (c1.1, ((zi 17830)) + (((zi 802)) * c1.2))
def fX10_doneIn (σ : zS) (x0 : Int32) (x1 : Int32) : Option (zS × Int32) :=
  (fX10_channelIn σ x0 x1).bind fun c1 => some (c1.1, ((zi 24246)) + (((zi 202)) * c1.2))
def fX10_doneOut (σ : zS) (x0 : Int32) (x1 : Int32) : Option (zS × Int32) :=
  (fX10_channelOut σ x0 x1).bind fun c1 => some (c1.1, ((zi 27478)) + (((zi 802)) * c1.2))
def fX10_results (σ : zS) (x0 : Int32) (x1 : Int32) : Option (zS × Int32) :=
  some (σ, x0 + (((zi 801)) * x1))
def fX10_keyOf (σ : zS) (x0 : Nat) (x1 : Int32) (x2 : Int32) : Option (zS × Int32) :=
  (zgR 9 4 σ x0).bind fun v1 => (zaI σ v1 x1).bind fun v2 => some (σ, (((zi 4)) * (((v2 + (x2 * x2)) + (x2 / ((zi 2)))) - ((v2 + (x2 * x2)) + (x2 / ((zi 2)))) / ((zi 4)) * ((zi 4)))) + x1)
def fX10_valueOf (σ : zS) (x0 : Nat) (x1 : Int32) (x2 : Int32) : Option (zS × Int32) :=
  (zgR 9 4 σ x0).bind fun v1 => (zaI σ v1 x1).bind fun v2 => some (σ, ((v2 + (((zi 7)) * x2)) - (v2 + (((zi 7)) * x2)) / ((zi 50)) * ((zi 50))) + ((zi 1)))
def fX10_ownerAmong (σ : zS) (x0 : Int32) (x1 : Int32) : Option (zS × Int32) :=
  some (σ, (x0 * x1) / ((zi 8)))
def fX10_ownerOf (σ : zS) (x0 : Nat) (x1 : Int32) : Option (zS × Int32) :=
  (zgR 9 6 σ x0).bind fun v1 => (zaI σ v1 ((zi 1))).bind fun v2 => (fX10_ownerAmong σ (x1 - x1 / ((zi 8)) * ((zi 8))) v2).bind fun c3 => some (c3.1, c3.2)
def fX10_sinkOf (σ : zS) (x0 : Nat) (x1 : Int32) : Option (zS × Int32) :=
  (zgI 9 2 σ x0).bind fun v1 => (znz v1).bind fun d2 => some (σ, (x1 / ((zi 4))) - (x1 / ((zi 4))) / v1 * v1)
def sX10_emptiesKept_9b (x0 : Nat) (x1 : Int32) (σ : zS) (u2 : Int32) : Option ((zS × Int32) ⊕ zS) :=
  (if ((zi 4)) ≤ u2 then some (.inr σ) else (fX10_keptIn σ u2 x1).bind fun c1 => (zck 9 c1.1 x0 (fX10_empties c1.1 x0 c1.2)).bind fun c2 => some (.inl (c2, u2 + (zi 1))))
def sX10_emptiesKept_9 (x0 : Nat) (x1 : Int32) (z : (zS × Int32)) : Option ((zS × Int32) ⊕ zS) := sX10_emptiesKept_9b x0 x1 z.1 z.2
def sX10_emptiesKept_31b (x0 : Nat) (x1 : Int32) (σ : zS) (u2 : Int32) : Option ((zS × Int32) ⊕ zS) :=
  (if ((zi 2)) ≤ u2 then some (.inr σ) else (fX10_keptOut σ x1 u2).bind fun c5 => (zck 9 c5.1 x0 (fX10_empties c5.1 x0 c5.2)).bind fun c6 => some (.inl (c6, u2 + (zi 1))))
def sX10_emptiesKept_31 (x0 : Nat) (x1 : Int32) (z : (zS × Int32)) : Option ((zS × Int32) ⊕ zS) := sX10_emptiesKept_31b x0 x1 z.1 z.2
def sX10_emptiesKept_2b (x0 : Nat) (σ : zS) (u1 : Int32) : Option ((zS × Int32) ⊕ zS) :=
  (if ((zi 4)) ≤ u1 then some (.inr σ) else (zloop (sX10_emptiesKept_9 x0 u1) zfuel (σ, (zi 0))).bind fun o4 => (zloop (sX10_emptiesKept_31 x0 u1) zfuel (o4, (zi 0))).bind fun o8 => some (.inl (o8, u1 + (zi 1))))
def sX10_emptiesKept_2 (x0 : Nat) (z : (zS × Int32)) : Option ((zS × Int32) ⊕ zS) := sX10_emptiesKept_2b x0 z.1 z.2
def fX10_emptiesKept (σ : zS) (x0 : Nat) : Option zS :=
  (zloop (sX10_emptiesKept_2 x0) zfuel (σ, (zi 0))).bind fun o10 => some o10
def sX10_begins_46b (x0 : Nat) (σ : zS) (u2 : Int32) : Option ((zS × Int32) ⊕ zS) :=
  (if ((zi 118)) ≤ u2 then some (.inr σ) else (zgR 9 6 σ x0).bind fun v13 => (zsI σ v13 u2 ((zi 0))).bind fun σ14 => some (.inl (σ14, u2 + (zi 1))))
def sX10_begins_46 (x0 : Nat) (z : (zS × Int32)) : Option ((zS × Int32) ⊕ zS) := sX10_begins_46b x0 z.1 z.2
def fX10_begins (σ : zS) (x0 : Nat) (x1 : Int32) : Option zS :=
  (zgR 9 6 σ x0).bind fun v1 => (zgR 9 6 σ x0).bind fun v2 => (zaI σ v2 ((zi 5))).bind fun v3 => (zsI σ v1 ((zi 5)) (v3 + ((zi 1)))).bind fun σ4 => (zgR 9 6 σ4 x0).bind fun v5 => (zsI σ4 v5 ((zi 67)) ((zi 1))).bind fun σ6 => (zgR 9 6 σ6 x0).bind fun v7 => (zgR 9 6 σ6 x0).bind fun v8 => (zaI σ6 v8 ((zi 0))).bind fun v9 => (zsI σ6 v7 ((zi 68)) v9).bind fun σ10 => (zgR 9 6 σ10 x0).bind fun v11 => (zsI σ10 v11 ((zi 69)) x1).bind fun σ12 => (zloop (sX10_begins_46 x0) zfuel (σ12, (zi 70))).bind fun o16 => (zck 9 o16 x0 (fX10_emptiesKept o16 x0 )).bind fun c17 => some c17
def sX10_laysKept_9b (x0 : Nat) (x1 : Int32) (σ : zS) (u2 : Int32) : Option ((zS × Int32) ⊕ zS) :=
  (if ((zi 4)) ≤ u2 then some (.inr σ) else (fX10_doneIn σ u2 x1).bind fun c1 => (fX10_keptIn c1.1 u2 x1).bind fun c2 => (zck 9 c2.1 x0 (fX10_becomes c2.1 x0 c1.2 c2.2)).bind fun c3 => some (.inl (c3, u2 + (zi 1))))
def sX10_laysKept_9 (x0 : Nat) (x1 : Int32) (z : (zS × Int32)) : Option ((zS × Int32) ⊕ zS) := sX10_laysKept_9b x0 x1 z.1 z.2
def sX10_laysKept_36b (x0 : Nat) (x1 : Int32) (σ : zS) (u2 : Int32) : Option ((zS × Int32) ⊕ zS) :=
  (if ((zi 2)) ≤ u2 then some (.inr σ) else (fX10_doneOut σ x1 u2).bind fun c6 => (fX10_keptOut c6.1 x1 u2).bind fun c7 => (zck 9 c7.1 x0 (fX10_becomes c7.1 x0 c6.2 c7.2)).bind fun c8 => some (.inl (c8, u2 + (zi 1))))
def sX10_laysKept_36 (x0 : Nat) (x1 : Int32) (z : (zS × Int32)) : Option ((zS × Int32) ⊕ zS) := sX10_laysKept_36b x0 x1 z.1 z.2
def sX10_laysKept_2b (x0 : Nat) (σ : zS) (u1 : Int32) : Option ((zS × Int32) ⊕ zS) :=
  (if ((zi 4)) ≤ u1 then some (.inr σ) else (zloop (sX10_laysKept_9 x0 u1) zfuel (σ, (zi 0))).bind fun o5 => (zloop (sX10_laysKept_36 x0 u1) zfuel (o5, (zi 0))).bind fun o10 => some (.inl (o10, u1 + (zi 1))))
def sX10_laysKept_2 (x0 : Nat) (z : (zS × Int32)) : Option ((zS × Int32) ⊕ zS) := sX10_laysKept_2b x0 z.1 z.2
def fX10_laysKept (σ : zS) (x0 : Nat) : Option zS :=
  (zloop (sX10_laysKept_2 x0) zfuel (σ, (zi 0))).bind fun o12 => some o12
def fX10_overtakes (σ : zS) (x0 : Nat) : Option (zS × Int32) :=
  (zgR 9 6 σ x0).bind fun v1 => (zaI σ v1 ((zi 67))).bind fun v2 => (if v2 = ((zi 1)) then (zgR 9 6 σ x0).bind fun v3 => (zaI σ v3 ((zi 69))).bind fun v4 => (if v4 = ((zi 1)) then zrZ σ ((zi 1)) else zrZ σ ((zi 0))) else zrZ σ ((zi 0)))
def sX10_arrivedAt_4b (x0 : Nat) (x1 : Int32) (σ : zS) (u2 : Int32) (u3 : Int32) : Option ((zS × Int32 × Int32) ⊕ (zS × Int32)) :=
  (zgI 9 1 σ x0).bind fun v1 => (if v1 ≤ u3 then some (.inr (σ, u2)) else (zgR 9 6 σ x0).bind fun v2 => (fX10_channelIn σ u3 x1).bind fun c3 => (zaI c3.1 v2 (((zi 74)) + c3.2)).bind fun v4 => some (.inl (c3.1, u2 + v4, u3 + (zi 1))))
def sX10_arrivedAt_4 (x0 : Nat) (x1 : Int32) (z : (zS × Int32 × Int32)) : Option ((zS × Int32 × Int32) ⊕ (zS × Int32)) := sX10_arrivedAt_4b x0 x1 z.1 z.2.1 z.2.2
def fX10_arrivedAt (σ : zS) (x0 : Nat) (x1 : Int32) : Option (zS × Int32) :=
  (zloop (sX10_arrivedAt_4 x0 x1) zfuel (σ, (zi 0), (zi 0))).bind fun o6 => some (o6.1, o6.2)
def sX10_arrivedAtSink_4b (x0 : Nat) (x1 : Int32) (σ : zS) (u2 : Int32) (u3 : Int32) : Option ((zS × Int32 × Int32) ⊕ (zS × Int32)) :=
  (zgR 9 6 σ x0).bind fun v1 => (zaI σ v1 ((zi 1))).bind fun v2 => (if v2 ≤ u3 then some (.inr (σ, u2)) else (zgR 9 6 σ x0).bind fun v3 => (fX10_channelOut σ u3 x1).bind fun c4 => (zaI c4.1 v3 (((zi 90)) + c4.2)).bind fun v5 => some (.inl (c4.1, u2 + v5, u3 + (zi 1))))
def sX10_arrivedAtSink_4 (x0 : Nat) (x1 : Int32) (z : (zS × Int32 × Int32)) : Option ((zS × Int32 × Int32) ⊕ (zS × Int32)) := sX10_arrivedAtSink_4b x0 x1 z.1 z.2.1 z.2.2
def fX10_arrivedAtSink (σ : zS) (x0 : Nat) (x1 : Int32) : Option (zS × Int32) :=
  (zloop (sX10_arrivedAtSink_4 x0 x1) zfuel (σ, (zi 0), (zi 0))).bind fun o7 => some (o7.1, o7.2)
def jX10_notes_35_L2 (σ : zS) (x0 : Nat) (x1 : Int32) (x2 : Int32)  : Option ((zS × Int32) ⊕ zS) :=
  some (.inl (σ, x2 + (zi 1)))
def sX10_notes_2b (x0 : Nat) (x1 : Int32) (σ : zS) (u2 : Int32) : Option ((zS × Int32) ⊕ zS) :=
  (if ((zi 16)) ≤ u2 then some (.inr σ) else (zck 9 σ x0 (fX10_ownerOf σ x0 u2)).bind fun c1 => (if c1.2 = x1 then (zgR 9 6 c1.1 x0).bind fun v2 => (zgR 9 6 c1.1 x0).bind fun v3 => (zaI c1.1 v3 (((zi 17)) + u2)).bind fun v4 => (zsI c1.1 v2 (((zi 102)) + u2) v4).bind fun σ5 => jX10_notes_35_L2 σ5 x0 x1 u2 else jX10_notes_35_L2 c1.1 x0 x1 u2))
def sX10_notes_2 (x0 : Nat) (x1 : Int32) (z : (zS × Int32)) : Option ((zS × Int32) ⊕ zS) := sX10_notes_2b x0 x1 z.1 z.2
def sX10_notes_43b (x0 : Nat) (x1 : Int32) (σ : zS) (u2 : Int32) : Option ((zS × Int32) ⊕ zS) :=
  (zgI 9 2 σ x0).bind fun v9 => (if v9 ≤ u2 then some (.inr σ) else (fX10_toSink σ x1 u2).bind fun c10 => (zck 9 c10.1 x0 (fX10_adds c10.1 x0 c10.2 ((zi (-1))))).bind fun c11 => some (.inl (c11, u2 + (zi 1))))
def sX10_notes_43 (x0 : Nat) (x1 : Int32) (z : (zS × Int32)) : Option ((zS × Int32) ⊕ zS) := sX10_notes_43b x0 x1 z.1 z.2
def fX10_notes (σ : zS) (x0 : Nat) (x1 : Int32) : Option zS :=
  (zloop (sX10_notes_2 x0 x1) zfuel (σ, (zi 0))).bind fun o8 => (zloop (sX10_notes_43 x0 x1) zfuel (o8, (zi 0))).bind fun o13 => some o13
def fX10_closes (σ : zS) (x0 : Nat) (x1 : Int32) : Option zS :=
  (fX10_results σ ((zi 11394)) x1).bind fun c1 => (fX10_results c1.1 ((zi 9792)) x1).bind fun c2 => (zck 9 c2.1 x0 (fX10_becomes c2.1 x0 c1.2 c2.2)).bind fun c3 => (fX10_results c3 ((zi 9792)) x1).bind fun c4 => (zck 9 c4.1 x0 (fX10_empties c4.1 x0 c4.2)).bind fun c5 => some c5
def sX10_aligns_48b (x0 : Nat) (x2 : Int32) (σ : zS) (u3 : Int32) : Option ((zS × Int32) ⊕ zS) :=
  (zgI 9 1 σ x0).bind fun v10 => (if v10 ≤ u3 then some (.inr σ) else (zgR 9 6 σ x0).bind fun v11 => (fX10_channelIn σ u3 x2).bind fun c12 => (zsI c12.1 v11 (((zi 43)) + c12.2) ((zi 0))).bind fun σ13 => some (.inl (σ13, u3 + (zi 1))))
def sX10_aligns_48 (x0 : Nat) (x2 : Int32) (z : (zS × Int32)) : Option ((zS × Int32) ⊕ zS) := sX10_aligns_48b x0 x2 z.1 z.2
def fX10_aligns (σ : zS) (x0 : Nat) (x1 : Int32) (x2 : Int32) : Option zS :=
  (zgR 9 6 σ x0).bind fun v1 => (fX10_channelIn σ x1 x2).bind fun c2 => (zsI c2.1 v1 (((zi 74)) + c2.2) ((zi 1))).bind fun σ3 => (zgR 9 6 σ3 x0).bind fun v4 => (fX10_channelIn σ3 x1 x2).bind fun c5 => (zsI c5.1 v4 (((zi 43)) + c5.2) ((zi 1))).bind fun σ6 => (zck 9 σ6 x0 (fX10_arrivedAt σ6 x0 x2)).bind fun c7 => (zgI 9 1 c7.1 x0).bind fun v8 => (if v8 ≤ c7.2 then (zck 9 c7.1 x0 (fX10_notes c7.1 x0 x2)).bind fun c9 => (zloop (sX10_aligns_48 x0 x2) zfuel (c9, (zi 0))).bind fun o15 => some o15 else some c7.1)
def sX10_alignsAtSink_50b (x0 : Nat) (x2 : Int32) (σ : zS) (u3 : Int32) : Option ((zS × Int32) ⊕ zS) :=
  (zgR 9 6 σ x0).bind fun v11 => (zaI σ v11 ((zi 1))).bind fun v12 => (if v12 ≤ u3 then some (.inr σ) else (zgR 9 6 σ x0).bind fun v13 => (fX10_channelOut σ u3 x2).bind fun c14 => (zsI c14.1 v13 (((zi 59)) + c14.2) ((zi 0))).bind fun σ15 => some (.inl (σ15, u3 + (zi 1))))
def sX10_alignsAtSink_50 (x0 : Nat) (x2 : Int32) (z : (zS × Int32)) : Option ((zS × Int32) ⊕ zS) := sX10_alignsAtSink_50b x0 x2 z.1 z.2
def fX10_alignsAtSink (σ : zS) (x0 : Nat) (x1 : Int32) (x2 : Int32) : Option zS :=
  (zgR 9 6 σ x0).bind fun v1 => (fX10_channelOut σ x1 x2).bind fun c2 => (zsI c2.1 v1 (((zi 90)) + c2.2) ((zi 1))).bind fun σ3 => (zgR 9 6 σ3 x0).bind fun v4 => (fX10_channelOut σ3 x1 x2).bind fun c5 => (zsI c5.1 v4 (((zi 59)) + c5.2) ((zi 1))).bind fun σ6 => (zck 9 σ6 x0 (fX10_arrivedAtSink σ6 x0 x2)).bind fun c7 => (zgR 9 6 c7.1 x0).bind fun v8 => (zaI c7.1 v8 ((zi 1))).bind fun v9 => (if v9 ≤ c7.2 then (zck 9 c7.1 x0 (fX10_closes c7.1 x0 x2)).bind fun c10 => (zloop (sX10_alignsAtSink_50 x0 x2) zfuel (c10, (zi 0))).bind fun o17 => some o17 else some c7.1)
def sX10_keepsAhead_9b (x0 : Nat) (x1 : Int32) (x2 : Int32) (x3 : Int32) (σ : zS) (u4 : Int32) : Option ((zS × Int32) ⊕ zS) :=
  (if x3 ≤ u4 then some (.inr σ) else (zck 9 σ x0 (fX10_at σ x0 x1 u4)).bind fun c2 => (zck 9 c2.1 x0 (fX10_adds c2.1 x0 x2 c2.2)).bind fun c3 => some (.inl (c3, u4 + (zi 1))))
def sX10_keepsAhead_9 (x0 : Nat) (x1 : Int32) (x2 : Int32) (x3 : Int32) (z : (zS × Int32)) : Option ((zS × Int32) ⊕ zS) := sX10_keepsAhead_9b x0 x1 x2 x3 z.1 z.2
def fX10_keepsAhead (σ : zS) (x0 : Nat) (x1 : Int32) (x2 : Int32) : Option zS :=
  (zck 9 σ x0 (fX10_barrierIn σ x0 x1)).bind fun c1 => (zloop (sX10_keepsAhead_9 x0 x1 x2 c1.2) zfuel (c1.1, (zi 0))).bind fun o5 => (zck 9 o5 x0 (fX10_removes o5 x0 x1 c1.2)).bind fun c6 => some c6
def jX10_overtakesAt_27 (σ : zS) (x0 : Nat) (x1 : Int32) (x2 : Int32)  : Option zS :=
  (fX10_toInstance σ x1 x2).bind fun c4 => (fX10_keptIn c4.1 x1 x2).bind fun c5 => (zck 9 c5.1 x0 (fX10_keepsAhead c5.1 x0 c4.2 c5.2)).bind fun c6 => (zgR 9 6 c6 x0).bind fun v7 => (fX10_channelIn c6 x1 x2).bind fun c8 => (zsI c8.1 v7 (((zi 74)) + c8.2) ((zi 1))).bind fun σ9 => some σ9
def fX10_overtakesAt (σ : zS) (x0 : Nat) (x1 : Int32) (x2 : Int32) : Option zS :=
  (fX10_toInstance σ x1 x2).bind fun c1 => (zck 9 c1.1 x0 (fX10_barrierIn c1.1 x0 c1.2)).bind fun c2 => (if c2.2 = ((zi (-1))) then some c2.1 else (zck 9 c2.1 x0 (fX10_arrivedAt c2.1 x0 x2)).bind fun c3 => (if c3.2 = ((zi 0)) then (zck 9 c3.1 x0 (fX10_notes c3.1 x0 x2)).bind fun c10 => jX10_overtakesAt_27 c10 x0 x1 x2 else jX10_overtakesAt_27 c3.1 x0 x1 x2))
def jX10_overtakesAtSink_27 (σ : zS) (x0 : Nat) (x1 : Int32) (x2 : Int32)  : Option zS :=
  (fX10_toSink σ x1 x2).bind fun c4 => (fX10_keptOut c4.1 x1 x2).bind fun c5 => (zck 9 c5.1 x0 (fX10_keepsAhead c5.1 x0 c4.2 c5.2)).bind fun c6 => (zgR 9 6 c6 x0).bind fun v7 => (fX10_channelOut c6 x1 x2).bind fun c8 => (zsI c8.1 v7 (((zi 90)) + c8.2) ((zi 1))).bind fun σ9 => some σ9
def fX10_overtakesAtSink (σ : zS) (x0 : Nat) (x1 : Int32) (x2 : Int32) : Option zS :=
  (fX10_toSink σ x1 x2).bind fun c1 => (zck 9 c1.1 x0 (fX10_barrierIn c1.1 x0 c1.2)).bind fun c2 => (if c2.2 = ((zi (-1))) then some c2.1 else (zck 9 c2.1 x0 (fX10_arrivedAtSink c2.1 x0 x2)).bind fun c3 => (if c3.2 = ((zi 0)) then (zck 9 c3.1 x0 (fX10_closes c3.1 x0 x2)).bind fun c10 => jX10_overtakesAtSink_27 c10 x0 x1 x2 else jX10_overtakesAtSink_27 c3.1 x0 x1 x2))
def sX10_isComplete_2b (x0 : Nat) (σ : zS) (u1 : Int32) : Option ((zS × Int32) ⊕ (zS ⊕ zS)) :=
  (zgI 9 1 σ x0).bind fun v1 => (if v1 ≤ u1 then some (.inr (.inr σ)) else (zgR 9 6 σ x0).bind fun v2 => (zaI σ v2 (((zi 70)) + u1)).bind fun v3 => (if v3 = ((zi 0)) then some (.inr (.inl σ)) else some (.inl (σ, u1 + (zi 1)))))
def sX10_isComplete_2 (x0 : Nat) (z : (zS × Int32)) : Option ((zS × Int32) ⊕ (zS ⊕ zS)) := sX10_isComplete_2b x0 z.1 z.2
def sX10_isComplete_32b (x0 : Nat) (σ : zS) (u1 : Int32) : Option ((zS × Int32) ⊕ (zS ⊕ zS)) :=
  (zgR 9 6 σ x0).bind fun v9 => (zaI σ v9 ((zi 1))).bind fun v10 => (if v10 ≤ u1 then some (.inr (.inr σ)) else (zck 9 σ x0 (fX10_arrivedAt σ x0 u1)).bind fun c11 => (zgI 9 1 c11.1 x0).bind fun v12 => (if v12 ≤ c11.2 then some (.inl (c11.1, u1 + (zi 1))) else some (.inr (.inl c11.1))))
def sX10_isComplete_32 (x0 : Nat) (z : (zS × Int32)) : Option ((zS × Int32) ⊕ (zS ⊕ zS)) := sX10_isComplete_32b x0 z.1 z.2
def sX10_isComplete_64b (x0 : Nat) (σ : zS) (u1 : Int32) : Option ((zS × Int32) ⊕ (zS ⊕ zS)) :=
  (zgI 9 2 σ x0).bind fun v18 => (if v18 ≤ u1 then some (.inr (.inr σ)) else (zck 9 σ x0 (fX10_arrivedAtSink σ x0 u1)).bind fun c19 => (zgR 9 6 c19.1 x0).bind fun v20 => (zaI c19.1 v20 ((zi 1))).bind fun v21 => (if v21 ≤ c19.2 then some (.inl (c19.1, u1 + (zi 1))) else some (.inr (.inl c19.1))))
def sX10_isComplete_64 (x0 : Nat) (z : (zS × Int32)) : Option ((zS × Int32) ⊕ (zS ⊕ zS)) := sX10_isComplete_64b x0 z.1 z.2
def fX10_isComplete (σ : zS) (x0 : Nat) : Option (zS × Int32) :=
  (zloop (sX10_isComplete_2 x0) zfuel (σ, (zi 0))).bind fun o6 => (match o6 with | (.inl z7) => zrZ z7 ((zi 0)) | (.inr z8) => (zloop (sX10_isComplete_32 x0) zfuel (z8, (zi 0))).bind fun o15 => (match o15 with | (.inl z16) => zrZ z16 ((zi 0)) | (.inr z17) => (zloop (sX10_isComplete_64 x0) zfuel (z17, (zi 0))).bind fun o24 => (match o24 with | (.inl z25) => zrZ z25 ((zi 0)) | (.inr z26) => zrZ z26 ((zi 1)))))
def sX10_completes_96b (x0 : Nat) (σ : zS) (u1 : Int32) : Option ((zS × Int32) ⊕ zS) :=
  (if ((zi 4)) ≤ u1 then some (.inr σ) else (zgR 9 6 σ x0).bind fun v27 => (zgR 9 6 σ x0).bind fun v28 => (zaI σ v28 (((zi 98)) + u1)).bind fun v29 => (zsI σ v27 (((zi 124)) + u1) v29).bind fun σ30 => some (.inl (σ30, u1 + (zi 1))))
def sX10_completes_96 (x0 : Nat) (z : (zS × Int32)) : Option ((zS × Int32) ⊕ zS) := sX10_completes_96b x0 z.1 z.2
def sX10_completes_127b (x0 : Nat) (σ : zS) (u1 : Int32) : Option ((zS × Int32) ⊕ zS) :=
  (if ((zi 16)) ≤ u1 then some (.inr σ) else (zgR 9 6 σ x0).bind fun v33 => (zgR 9 6 σ x0).bind fun v34 => (zaI σ v34 (((zi 102)) + u1)).bind fun v35 => (zsI σ v33 (((zi 128)) + u1) v35).bind fun σ36 => some (.inl (σ36, u1 + (zi 1))))
def sX10_completes_127 (x0 : Nat) (z : (zS × Int32)) : Option ((zS × Int32) ⊕ zS) := sX10_completes_127b x0 z.1 z.2
def fX10_completes (σ : zS) (x0 : Nat) : Option zS :=
  (zgR 9 6 σ x0).bind fun v1 => (zsI σ v1 ((zi 67)) ((zi 0))).bind fun σ2 => (zgR 9 6 σ2 x0).bind fun v3 => (zgR 9 6 σ2 x0).bind fun v4 => (zaI σ2 v4 ((zi 6))).bind fun v5 => (zsI σ2 v3 ((zi 6)) (v5 + ((zi 1)))).bind fun σ6 => (zgR 9 6 σ6 x0).bind fun v7 => (zsI σ6 v7 ((zi 118)) ((zi 1))).bind fun σ8 => (zgR 9 6 σ8 x0).bind fun v9 => (zgR 9 6 σ8 x0).bind fun v10 => (zaI σ8 v10 ((zi 5))).bind fun v11 => (zsI σ8 v9 ((zi 119)) v11).bind fun σ12 => (zgR 9 6 σ12 x0).bind fun v13 => (zgR 9 6 σ12 x0).bind fun v14 => (zaI σ12 v14 ((zi 68))).bind fun v15 => (zsI σ12 v13 ((zi 120)) v15).bind fun σ16 => (zgR 9 6 σ16 x0).bind fun v17 => (zgR 9 6 σ16 x0).bind fun v18 => (zaI σ16 v18 ((zi 0))).bind fun v19 => (zsI σ16 v17 ((zi 121)) v19).bind fun σ20 => (zgR 9 6 σ20 x0).bind fun v21 => (zgR 9 6 σ20 x0).bind fun v22 => (zaI σ20 v22 ((zi 69))).bind fun v23 => (zsI σ20 v21 ((zi 122)) v23).bind fun σ24 => (zgR 9 6 σ24 x0).bind fun v25 => (zsI σ24 v25 ((zi 123)) ((zi 0))).bind fun σ26 => (zloop (sX10_completes_96 x0) zfuel (σ26, (zi 0))).bind fun o32 => (zloop (sX10_completes_127 x0) zfuel (o32, (zi 0))).bind fun o38 => (zck 9 o38 x0 (fX10_laysKept o38 x0 )).bind fun c39 => some c39
def sX10_shows_32b (x0 : Nat) (σ : zS) (u1 : Int32) : Option ((zS × Int32) ⊕ zS) :=
  (zgI 9 2 σ x0).bind fun v7 => (if v7 ≤ u1 then some (.inr σ) else (fX10_results σ ((zi 11394)) u1).bind fun c8 => (fX10_results c8.1 ((zi 12996)) u1).bind fun c9 => (zck 9 c9.1 x0 (fX10_addsAll c9.1 x0 c8.2 c9.2)).bind fun c10 => (fX10_results c10 ((zi 11394)) u1).bind fun c11 => (zck 9 c11.1 x0 (fX10_empties c11.1 x0 c11.2)).bind fun c12 => some (.inl (c12, u1 + (zi 1))))
def sX10_shows_32 (x0 : Nat) (z : (zS × Int32)) : Option ((zS × Int32) ⊕ zS) := sX10_shows_32b x0 z.1 z.2
def fX10_shows (σ : zS) (x0 : Nat) : Option zS :=
  (zgR 9 6 σ x0).bind fun v1 => (zaI σ v1 ((zi 118))).bind fun v2 => (if v2 = ((zi 0)) then some σ else (zgR 9 6 σ x0).bind fun v3 => (zaI σ v3 ((zi 123))).bind fun v4 => (if v4 = ((zi 1)) then some σ else (zgR 9 6 σ x0).bind fun v5 => (zsI σ v5 ((zi 123)) ((zi 1))).bind fun σ6 => (zloop (sX10_shows_32 x0) zfuel (σ6, (zi 0))).bind fun o14 => some o14))
def jX10_sends_105 (σ : zS) (x0 : Nat) (x1 : Int32)  : Option zS :=
  (zgR 9 6 σ x0).bind fun v3 => (zaI σ v3 (((zi 13)) + x1)).bind fun v4 => (zgR 9 3 σ x0).bind fun v5 => (zaI σ v5 x1).bind fun v6 => (if v4 = v6 then some σ else (zck 9 σ x0 (fX10_keyOf σ x0 x1 v4)).bind fun c7 => (zck 9 c7.1 x0 (fX10_ownerOf c7.1 x0 c7.2)).bind fun c8 => (fX10_toInstance c8.1 x1 c8.2).bind fun c9 => (zck 9 c9.1 x0 (fX10_isFull c9.1 x0 c9.2)).bind fun c10 => (if c10.2 = ((zi 0)) then (zck 9 c10.1 x0 (fX10_adds c10.1 x0 c9.2 v4)).bind fun c11 => (zgR 9 6 c11 x0).bind fun v12 => (zsI c11 v12 (((zi 13)) + x1) (v4 + ((zi 1)))).bind fun σ13 => (zgR 9 6 σ13 x0).bind fun v14 => (zgR 9 6 σ13 x0).bind fun v15 => (zaI σ13 v15 ((zi 8))).bind fun v16 => (zsI σ13 v14 ((zi 8)) (v16 + ((zi 1)))).bind fun σ17 => some σ17 else some c10.1))
def sX10_sends_79b (x0 : Nat) (x1 : Int32) (σ : zS) (u2 : Int32) : Option ((zS × Int32) ⊕ zS) :=
  (zgR 9 6 σ x0).bind fun v34 => (zaI σ v34 ((zi 1))).bind fun v35 => (if v35 ≤ u2 then some (.inr σ) else (fX10_toInstance σ x1 u2).bind fun c36 => (zck 9 c36.1 x0 (fX10_adds c36.1 x0 c36.2 ((zi (-1))))).bind fun c37 => some (.inl (c37, u2 + (zi 1))))
def sX10_sends_79 (x0 : Nat) (x1 : Int32) (z : (zS × Int32)) : Option ((zS × Int32) ⊕ zS) := sX10_sends_79b x0 x1 z.1 z.2
def fX10_sends (σ : zS) (x0 : Nat) (x1 : Int32) : Option zS :=
  (zgR 9 6 σ x0).bind fun v1 => (zaI σ v1 ((zi 67))).bind fun v2 => (if v2 = ((zi 1)) then (zgR 9 6 σ x0).bind fun v20 => (zaI σ v20 (((zi 70)) + x1)).bind fun v21 => (if v21 = ((zi 0)) then (zgR 9 6 σ x0).bind fun v22 => (zaI σ v22 ((zi 0))).bind fun v23 => (zgR 9 6 σ x0).bind fun v24 => (zaI σ v24 ((zi 68))).bind fun v25 => (zgR 9 6 σ x0).bind fun v26 => (zaI σ v26 (((zi 9)) + x1)).bind fun v27 => (if (v23 - v25) < v27 then jX10_sends_105 σ x0 x1 else (zgR 9 6 σ x0).bind fun v28 => (zsI σ v28 (((zi 70)) + x1) ((zi 1))).bind fun σ29 => (zgR 9 6 σ29 x0).bind fun v30 => (zgR 9 6 σ29 x0).bind fun v31 => (zaI σ29 v31 (((zi 13)) + x1)).bind fun v32 => (zsI σ29 v30 (((zi 98)) + x1) v32).bind fun σ33 => (zloop (sX10_sends_79 x0 x1) zfuel (σ33, (zi 0))).bind fun o39 => jX10_sends_105 o39 x0 x1) else jX10_sends_105 σ x0 x1) else jX10_sends_105 σ x0 x1)
def fX10_canTake (σ : zS) (x0 : Nat) (x1 : Int32) (x2 : Int32) : Option (zS × Int32) :=
  (fX10_toInstance σ x1 x2).bind fun c1 => (zgR 9 6 c1.1 x0).bind fun v2 => (zaI c1.1 v2 c1.2).bind fun v3 => (if v3 = ((zi 0)) then zrZ c1.1 ((zi 0)) else (zgR 9 6 c1.1 x0).bind fun v4 => (fX10_channelIn c1.1 x1 x2).bind fun c5 => (zaI c5.1 v4 (((zi 43)) + c5.2)).bind fun v6 => (if v6 = ((zi 1)) then zrZ c5.1 ((zi 0)) else (zck 9 c5.1 x0 (fX10_at c5.1 x0 c1.2 ((zi 0)))).bind fun c7 => (if c7.2 = ((zi (-1))) then zrZ c7.1 ((zi 1)) else (zck 9 c7.1 x0 (fX10_at c7.1 x0 c1.2 ((zi 0)))).bind fun c8 => (zck 9 c8.1 x0 (fX10_keyOf c8.1 x0 x1 c8.2)).bind fun c9 => (zck 9 c9.1 x0 (fX10_sinkOf c9.1 x0 c9.2)).bind fun c10 => (fX10_toSink c10.1 x2 c10.2).bind fun c11 => (zck 9 c11.1 x0 (fX10_isFull c11.1 x0 c11.2)).bind fun c12 => (if c12.2 = ((zi 0)) then zrZ c12.1 ((zi 1)) else zrZ c12.1 ((zi 0))))))
def jX10_takes_85 (σ : zS) (x0 : Nat) (x1 : Int32) (x2 : Int32) (x4 : Int32)  : Option zS :=
  (zck 9 σ x0 (fX10_keyOf σ x0 x1 x4)).bind fun c7 => (zgR 9 6 c7.1 x0).bind fun v8 => (zgR 9 6 c7.1 x0).bind fun v9 => (zaI c7.1 v9 (((zi 17)) + c7.2)).bind fun v10 => (zck 9 c7.1 x0 (fX10_valueOf c7.1 x0 x1 x4)).bind fun c11 => (zsI c11.1 v8 (((zi 17)) + c7.2) (v10 + c11.2)).bind fun σ12 => (zgR 9 6 σ12 x0).bind fun v13 => (zgR 9 6 σ12 x0).bind fun v14 => (zaI σ12 v14 (((zi 33)) + x2)).bind fun v15 => (zsI σ12 v13 (((zi 33)) + x2) (v15 + ((zi 1)))).bind fun σ16 => (zck 9 σ16 x0 (fX10_sinkOf σ16 x0 c7.2)).bind fun c17 => (fX10_toSink c17.1 x2 c17.2).bind fun c18 => (zgR 9 6 c18.1 x0).bind fun v19 => (zaI c18.1 v19 (((zi 17)) + c7.2)).bind fun v20 => (zck 9 c18.1 x0 (fX10_adds c18.1 x0 c18.2 ((((zi 20000)) * c7.2) + v20))).bind fun c21 => some c21
def fX10_takes (σ : zS) (x0 : Nat) (x1 : Int32) (x2 : Int32) : Option zS :=
  (fX10_toInstance σ x1 x2).bind fun c1 => (zck 9 c1.1 x0 (fX10_at c1.1 x0 c1.2 ((zi 0)))).bind fun c2 => (zck 9 c2.1 x0 (fX10_removes c2.1 x0 c1.2 ((zi 0)))).bind fun c3 => (zgR 9 6 c3 x0).bind fun v4 => (zsI c3 v4 (((zi 37)) + x2) x1).bind fun σ5 => (if c2.2 = ((zi (-1))) then (zck 9 σ5 x0 (fX10_aligns σ5 x0 x1 x2)).bind fun c31 => some c31 else (zck 9 σ5 x0 (fX10_overtakes σ5 x0 )).bind fun c6 => (if c6.2 = ((zi 0)) then jX10_takes_85 c6.1 x0 x1 x2 c2.2 else (zck 9 c6.1 x0 (fX10_arrivedAt c6.1 x0 x2)).bind fun c22 => (if c22.2 ≤ ((zi 0)) then jX10_takes_85 c22.1 x0 x1 x2 c2.2 else (zgR 9 6 c22.1 x0).bind fun v23 => (fX10_channelIn c22.1 x1 x2).bind fun c24 => (zaI c24.1 v23 (((zi 74)) + c24.2)).bind fun v25 => (if v25 = ((zi 0)) then (fX10_keptIn c24.1 x1 x2).bind fun c26 => (zck 9 c26.1 x0 (fX10_adds c26.1 x0 c26.2 c2.2)).bind fun c27 => jX10_takes_85 c27 x0 x1 x2 c2.2 else jX10_takes_85 c24.1 x0 x1 x2 c2.2))))
def sX10_handles_14b (x0 : Nat) (x1 : Int32) (x2 : Int32) (σ : zS) (u3 : Int32) : Option ((zS × Int32) ⊕ ((zS × Int32) ⊕ zS)) :=
  (zgI 9 1 σ x0).bind fun v3 => (if v3 ≤ u3 then some (.inr (.inr σ)) else (zgI 9 1 σ x0).bind fun v4 => (znz v4).bind fun d5 => (zck 9 σ x0 (fX10_canTake σ x0 ((x2 + u3) - (x2 + u3) / v4 * v4) x1)).bind fun c6 => (if c6.2 = ((zi 0)) then some (.inl (c6.1, u3 + (zi 1))) else some (.inr (.inl (c6.1, (x2 + u3) - (x2 + u3) / v4 * v4)))))
def sX10_handles_14 (x0 : Nat) (x1 : Int32) (x2 : Int32) (z : (zS × Int32)) : Option ((zS × Int32) ⊕ ((zS × Int32) ⊕ zS)) := sX10_handles_14b x0 x1 x2 z.1 z.2
def fX10_handles (σ : zS) (x0 : Nat) (x1 : Int32) : Option zS :=
  (zgR 9 6 σ x0).bind fun v1 => (zaI σ v1 (((zi 37)) + x1)).bind fun v2 => (zloop (sX10_handles_14 x0 x1 (v2 + ((zi 1)))) zfuel (σ, (zi 0))).bind fun o9 => (match o9 with | (.inl z10) => (zck 9 z10.1 x0 (fX10_takes z10.1 x0 z10.2 x1)).bind fun c11 => some c11 | (.inr z12) => some z12)
def jX10_takesAtSink_85 (σ : zS) (x0 : Nat) (x2 : Int32) (x4 : Int32)  : Option zS :=
  (fX10_results σ ((zi 9792)) x2).bind fun c7 => (zck 9 c7.1 x0 (fX10_adds c7.1 x0 c7.2 x4)).bind fun c8 => some c8
def fX10_takesAtSink (σ : zS) (x0 : Nat) (x1 : Int32) (x2 : Int32) : Option zS :=
  (fX10_toSink σ x1 x2).bind fun c1 => (zck 9 c1.1 x0 (fX10_at c1.1 x0 c1.2 ((zi 0)))).bind fun c2 => (zck 9 c2.1 x0 (fX10_removes c2.1 x0 c1.2 ((zi 0)))).bind fun c3 => (zgR 9 6 c3 x0).bind fun v4 => (zsI c3 v4 (((zi 41)) + x2) x1).bind fun σ5 => (if c2.2 = ((zi (-1))) then (zck 9 σ5 x0 (fX10_alignsAtSink σ5 x0 x1 x2)).bind fun c18 => some c18 else (zck 9 σ5 x0 (fX10_overtakes σ5 x0 )).bind fun c6 => (if c6.2 = ((zi 0)) then jX10_takesAtSink_85 c6.1 x0 x2 c2.2 else (zck 9 c6.1 x0 (fX10_arrivedAtSink c6.1 x0 x2)).bind fun c9 => (if c9.2 ≤ ((zi 0)) then jX10_takesAtSink_85 c9.1 x0 x2 c2.2 else (zgR 9 6 c9.1 x0).bind fun v10 => (fX10_channelOut c9.1 x1 x2).bind fun c11 => (zaI c11.1 v10 (((zi 90)) + c11.2)).bind fun v12 => (if v12 = ((zi 0)) then (fX10_keptOut c11.1 x1 x2).bind fun c13 => (zck 9 c13.1 x0 (fX10_adds c13.1 x0 c13.2 c2.2)).bind fun c14 => jX10_takesAtSink_85 c14 x0 x2 c2.2 else jX10_takesAtSink_85 c11.1 x0 x2 c2.2))))
def jX10_handlesAtSink_79_L14 (σ : zS) (x0 : Nat) (x1 : Int32) (x2 : Int32) (x3 : Int32)  : Option ((zS × Int32) ⊕ ((zS × Int32) ⊕ zS)) :=
  some (.inl (σ, x3 + (zi 1)))
def sX10_handlesAtSink_14b (x0 : Nat) (x1 : Int32) (x2 : Int32) (σ : zS) (u3 : Int32) : Option ((zS × Int32) ⊕ ((zS × Int32) ⊕ zS)) :=
  (zgR 9 6 σ x0).bind fun v3 => (zaI σ v3 ((zi 1))).bind fun v4 => (if v4 ≤ u3 then some (.inr (.inr σ)) else (zgR 9 6 σ x0).bind fun v5 => (zaI σ v5 ((zi 1))).bind fun v6 => (znz v6).bind fun d7 => (zgR 9 6 σ x0).bind fun v8 => (fX10_toSink σ ((x2 + u3) - (x2 + u3) / v6 * v6) x1).bind fun c9 => (zaI c9.1 v8 c9.2).bind fun v10 => (if v10 = ((zi 0)) then jX10_handlesAtSink_79_L14 c9.1 x0 x1 x2 u3 else (zgR 9 6 c9.1 x0).bind fun v11 => (fX10_channelOut c9.1 ((x2 + u3) - (x2 + u3) / v6 * v6) x1).bind fun c12 => (zaI c12.1 v11 (((zi 59)) + c12.2)).bind fun v13 => (if v13 = ((zi 1)) then jX10_handlesAtSink_79_L14 c12.1 x0 x1 x2 u3 else some (.inr (.inl (c12.1, (x2 + u3) - (x2 + u3) / v6 * v6))))))
def sX10_handlesAtSink_14 (x0 : Nat) (x1 : Int32) (x2 : Int32) (z : (zS × Int32)) : Option ((zS × Int32) ⊕ ((zS × Int32) ⊕ zS)) := sX10_handlesAtSink_14b x0 x1 x2 z.1 z.2
def fX10_handlesAtSink (σ : zS) (x0 : Nat) (x1 : Int32) : Option zS :=
  (zgR 9 6 σ x0).bind fun v1 => (zaI σ v1 (((zi 41)) + x1)).bind fun v2 => (zloop (sX10_handlesAtSink_14 x0 x1 (v2 + ((zi 1)))) zfuel (σ, (zi 0))).bind fun o17 => (match o17 with | (.inl z18) => (zck 9 z18.1 x0 (fX10_takesAtSink z18.1 x0 z18.2 x1)).bind fun c19 => some c19 | (.inr z20) => some z20)
def sX10_ticks_51b (x0 : Nat) (σ : zS) (u1 : Int32) : Option ((zS × Int32) ⊕ zS) :=
  (zgI 9 1 σ x0).bind fun v4 => (if v4 ≤ u1 then some (.inr σ) else (zck 9 σ x0 (fX10_sends σ x0 u1)).bind fun c5 => some (.inl (c5, u1 + (zi 1))))
def sX10_ticks_51 (x0 : Nat) (z : (zS × Int32)) : Option ((zS × Int32) ⊕ zS) := sX10_ticks_51b x0 z.1 z.2
def sX10_ticks_119b (x0 : Nat) (σ : zS) (u1 : Int32) : Option ((zS × Int32) ⊕ zS) :=
  (zgR 9 6 σ x0).bind fun v9 => (zaI σ v9 ((zi 1))).bind fun v10 => (if v10 ≤ u1 then some (.inr σ) else (zck 9 σ x0 (fX10_handles σ x0 u1)).bind fun c11 => some (.inl (c11, u1 + (zi 1))))
def sX10_ticks_119 (x0 : Nat) (z : (zS × Int32)) : Option ((zS × Int32) ⊕ zS) := sX10_ticks_119b x0 z.1 z.2
def sX10_ticks_189b (x0 : Nat) (σ : zS) (u1 : Int32) : Option ((zS × Int32) ⊕ zS) :=
  (zgI 9 2 σ x0).bind fun v15 => (if v15 ≤ u1 then some (.inr σ) else (zck 9 σ x0 (fX10_handlesAtSink σ x0 u1)).bind fun c16 => some (.inl (c16, u1 + (zi 1))))
def sX10_ticks_189 (x0 : Nat) (z : (zS × Int32)) : Option ((zS × Int32) ⊕ zS) := sX10_ticks_189b x0 z.1 z.2
def jX10_ticks_230 (σ : zS) (x0 : Nat)  : Option zS :=
  (zgR 9 6 σ x0).bind fun v21 => (zgR 9 6 σ x0).bind fun v22 => (zaI σ v22 ((zi 0))).bind fun v23 => (zsI σ v21 ((zi 0)) (v23 + ((zi 1)))).bind fun σ24 => some σ24
def jX10_ticks_187 (σ : zS) (x0 : Nat)  : Option zS :=
  (zloop (sX10_ticks_189 x0) zfuel (σ, (zi 0))).bind fun o18 => (zgR 9 6 o18 x0).bind fun v19 => (zaI o18 v19 ((zi 67))).bind fun v20 => (if v20 = ((zi 1)) then (zck 9 o18 x0 (fX10_isComplete o18 x0 )).bind fun c25 => (if c25.2 = ((zi 0)) then jX10_ticks_230 c25.1 x0 else (zck 9 c25.1 x0 (fX10_completes c25.1 x0 )).bind fun c26 => jX10_ticks_230 c26 x0) else jX10_ticks_230 o18 x0)
def sX10_ticks_159b (x0 : Nat) (x1 : Int32) (σ : zS) (u2 : Int32) : Option ((zS × Int32) ⊕ zS) :=
  (zgR 9 6 σ x0).bind fun v30 => (zaI σ v30 ((zi 1))).bind fun v31 => (if v31 ≤ u2 then some (.inr σ) else (zck 9 σ x0 (fX10_overtakesAtSink σ x0 u2 x1)).bind fun c32 => some (.inl (c32, u2 + (zi 1))))
def sX10_ticks_159 (x0 : Nat) (x1 : Int32) (z : (zS × Int32)) : Option ((zS × Int32) ⊕ zS) := sX10_ticks_159b x0 x1 z.1 z.2
def sX10_ticks_149b (x0 : Nat) (σ : zS) (u1 : Int32) : Option ((zS × Int32) ⊕ zS) :=
  (zgI 9 2 σ x0).bind fun v29 => (if v29 ≤ u1 then some (.inr σ) else (zloop (sX10_ticks_159 x0 u1) zfuel (σ, (zi 0))).bind fun o34 => some (.inl (o34, u1 + (zi 1))))
def sX10_ticks_149 (x0 : Nat) (z : (zS × Int32)) : Option ((zS × Int32) ⊕ zS) := sX10_ticks_149b x0 z.1 z.2
def jX10_ticks_117 (σ : zS) (x0 : Nat)  : Option zS :=
  (zloop (sX10_ticks_119 x0) zfuel (σ, (zi 0))).bind fun o13 => (zck 9 o13 x0 (fX10_overtakes o13 x0 )).bind fun c14 => (if c14.2 = ((zi 0)) then jX10_ticks_187 c14.1 x0 else (zloop (sX10_ticks_149 x0) zfuel (c14.1, (zi 0))).bind fun o36 => jX10_ticks_187 o36 x0)
def sX10_ticks_91b (x0 : Nat) (x1 : Int32) (σ : zS) (u2 : Int32) : Option ((zS × Int32) ⊕ zS) :=
  (zgI 9 1 σ x0).bind fun v40 => (if v40 ≤ u2 then some (.inr σ) else (zck 9 σ x0 (fX10_overtakesAt σ x0 u2 x1)).bind fun c41 => some (.inl (c41, u2 + (zi 1))))
def sX10_ticks_91 (x0 : Nat) (x1 : Int32) (z : (zS × Int32)) : Option ((zS × Int32) ⊕ zS) := sX10_ticks_91b x0 x1 z.1 z.2
def sX10_ticks_79b (x0 : Nat) (σ : zS) (u1 : Int32) : Option ((zS × Int32) ⊕ zS) :=
  (zgR 9 6 σ x0).bind fun v38 => (zaI σ v38 ((zi 1))).bind fun v39 => (if v39 ≤ u1 then some (.inr σ) else (zloop (sX10_ticks_91 x0 u1) zfuel (σ, (zi 0))).bind fun o43 => some (.inl (o43, u1 + (zi 1))))
def sX10_ticks_79 (x0 : Nat) (z : (zS × Int32)) : Option ((zS × Int32) ⊕ zS) := sX10_ticks_79b x0 z.1 z.2
def jX10_ticks_45 (σ : zS) (x0 : Nat)  : Option zS :=
  (zck 9 σ x0 (fX10_shows σ x0 )).bind fun c3 => (zloop (sX10_ticks_51 x0) zfuel (c3, (zi 0))).bind fun o7 => (zck 9 o7 x0 (fX10_overtakes o7 x0 )).bind fun c8 => (if c8.2 = ((zi 0)) then jX10_ticks_117 c8.1 x0 else (zloop (sX10_ticks_79 x0) zfuel (c8.1, (zi 0))).bind fun o45 => jX10_ticks_117 o45 x0)
def fX10_ticks (σ : zS) (x0 : Nat) : Option zS :=
  (zgR 9 6 σ x0).bind fun v1 => (zaI σ v1 ((zi 3))).bind fun v2 => (if v2 ≤ ((zi 0)) then jX10_ticks_45 σ x0 else (zgR 9 6 σ x0).bind fun v47 => (zaI σ v47 ((zi 0))).bind fun v48 => (zgR 9 6 σ x0).bind fun v49 => (zaI σ v49 ((zi 3))).bind fun v50 => (znz v50).bind fun d51 => (if (v48 - v48 / v50 * v50) = ((zi 0)) then (zgR 9 6 σ x0).bind fun v52 => (zaI σ v52 ((zi 67))).bind fun v53 => (if v53 = ((zi 0)) then (zgR 9 6 σ x0).bind fun v54 => (zaI σ v54 ((zi 4))).bind fun v55 => (zck 9 σ x0 (fX10_begins σ x0 v55)).bind fun c56 => jX10_ticks_45 c56 x0 else jX10_ticks_45 σ x0) else jX10_ticks_45 σ x0))
def fX10_isTicks (σ : zS) (x0 : Int32) : Option (zS × Int32) :=
  (fX10_isIn σ x0.toInt64 1 500).bind fun c1 => zrZ c1.1 c1.2
def sX10_run_27b (x0 : Nat) (x1 : Int32) (x2 : Int32) (σ : zS) (u3 : Int32) : Option ((zS × Int32) ⊕ zS) :=
  (if x1 ≤ u3 then some (.inr σ) else (zck 9 σ x0 (fX10_ticks σ x0 )).bind fun c6 => some (.inl (c6, u3 + (zi 1))))
def sX10_run_27 (x0 : Nat) (x1 : Int32) (x2 : Int32) (z : (zS × Int32)) : Option ((zS × Int32) ⊕ zS) := sX10_run_27b x0 x1 x2 z.1 z.2
def fX10_run (σ : zS) (x0 : Nat) (x1 : Int32) : Option (zS × Int32) :=
  (fX10_isTicks σ x1).bind fun c1 => (zck 9 c1.1 x0 (fX10_is c1.1 x0 c1.2)).bind fun c2 => (if c2.2 = ((zi 0)) then some (c2.1, (zi 0)) else (zck 9 c2.1 x0 (fX10_starts c2.1 x0 )).bind fun c3 => (zgR 9 6 c3 x0).bind fun v4 => (zaI c3 v4 ((zi 6))).bind fun v5 => (zloop (sX10_run_27 x0 x1 v5) zfuel (c3, (zi 0))).bind fun o8 => (zgR 9 6 o8 x0).bind fun v9 => (zaI o8 v9 ((zi 6))).bind fun v10 => (zck 9 o8 x0 (fX10_done o8 x0 (v10 - v5))).bind fun c11 => some (c11.1, c11.2))
def jX10_begin_38 (σ : zS) (x0 : Nat) (y0 : Int32) (y1 : Nat) : Option (zS × Int32) :=
  (zck 9 σ y1 (fX10_begins σ y1 y0)).bind fun c5 => (zgR 9 6 c5 x0).bind fun v6 => (zaI c5 v6 ((zi 5))).bind fun v7 => (zck 9 c5 x0 (fX10_done c5 x0 v7)).bind fun c8 => some (c8.1, c8.2)
def jX10_begin_16 (σ : zS) (x0 : Nat) (x1 : Int32) (y0 : Int32) (y1 : Nat) : Option (zS × Int32) :=
  (zck 9 σ y1 (fX10_is σ y1 y0)).bind fun c3 => (if c3.2 = ((zi 0)) then some (c3.1, (zi 0)) else (zck 9 c3.1 x0 (fX10_starts c3.1 x0 )).bind fun c4 => (if x1 = ((zi 0)) then jX10_begin_38 c4 x0 ((zi 0)) x0 else jX10_begin_38 c4 x0 ((zi 1)) x0))
def fX10_begin (σ : zS) (x0 : Nat) (x1 : Int32) : Option (zS × Int32) :=
  (zgR 9 6 σ x0).bind fun v1 => (zaI σ v1 ((zi 67))).bind fun v2 => (if v2 = ((zi 0)) then jX10_begin_16 σ x0 x1 ((zi 1)) x0 else jX10_begin_16 σ x0 x1 ((zi 0)) x0)
def sX10_risk_4b (x0 : Nat) (σ : zS) (u1 : Int32) (u2 : Int32) : Option ((zS × Int32 × Int32) ⊕ (zS × Int32)) :=
  (zgI 9 1 σ x0).bind fun v1 => (if v1 ≤ u2 then some (.inr (σ, u1)) else (zgR 9 6 σ x0).bind fun v2 => (zaI σ v2 (((zi 13)) + u2)).bind fun v3 => (zgR 9 6 σ x0).bind fun v4 => (zaI σ v4 (((zi 124)) + u2)).bind fun v5 => some (.inl (σ, (u1 + v3) - v5, u2 + (zi 1))))
def sX10_risk_4 (x0 : Nat) (z : (zS × Int32 × Int32)) : Option ((zS × Int32 × Int32) ⊕ (zS × Int32)) := sX10_risk_4b x0 z.1 z.2.1 z.2.2
def fX10_risk (σ : zS) (x0 : Nat) : Option (zS × Int32) :=
  (zloop (sX10_risk_4 x0) zfuel (σ, (zi 0), (zi 0))).bind fun o7 => some (o7.1, o7.2)
def sX10_laysDone_9b (x0 : Nat) (x1 : Int32) (σ : zS) (u2 : Int32) : Option ((zS × Int32) ⊕ zS) :=
  (if ((zi 4)) ≤ u2 then some (.inr σ) else (fX10_toInstance σ u2 x1).bind fun c1 => (fX10_doneIn c1.1 u2 x1).bind fun c2 => (zck 9 c2.1 x0 (fX10_becomes c2.1 x0 c1.2 c2.2)).bind fun c3 => some (.inl (c3, u2 + (zi 1))))
def sX10_laysDone_9 (x0 : Nat) (x1 : Int32) (z : (zS × Int32)) : Option ((zS × Int32) ⊕ zS) := sX10_laysDone_9b x0 x1 z.1 z.2
def sX10_laysDone_36b (x0 : Nat) (x1 : Int32) (σ : zS) (u2 : Int32) : Option ((zS × Int32) ⊕ zS) :=
  (if ((zi 2)) ≤ u2 then some (.inr σ) else (fX10_toSink σ x1 u2).bind fun c6 => (fX10_doneOut c6.1 x1 u2).bind fun c7 => (zck 9 c7.1 x0 (fX10_becomes c7.1 x0 c6.2 c7.2)).bind fun c8 => some (.inl (c8, u2 + (zi 1))))
def sX10_laysDone_36 (x0 : Nat) (x1 : Int32) (z : (zS × Int32)) : Option ((zS × Int32) ⊕ zS) := sX10_laysDone_36b x0 x1 z.1 z.2
def sX10_laysDone_2b (x0 : Nat) (σ : zS) (u1 : Int32) : Option ((zS × Int32) ⊕ zS) :=
  (if ((zi 4)) ≤ u1 then some (.inr σ) else (zloop (sX10_laysDone_9 x0 u1) zfuel (σ, (zi 0))).bind fun o5 => (zloop (sX10_laysDone_36 x0 u1) zfuel (o5, (zi 0))).bind fun o10 => some (.inl (o10, u1 + (zi 1))))
def sX10_laysDone_2 (x0 : Nat) (z : (zS × Int32)) : Option ((zS × Int32) ⊕ zS) := sX10_laysDone_2b x0 z.1 z.2
def fX10_laysDone (σ : zS) (x0 : Nat) : Option zS :=
  (zloop (sX10_laysDone_2 x0) zfuel (σ, (zi 0))).bind fun o12 => some o12
def sX10_fails_30b (x0 : Nat) (σ : zS) (u1 : Int32) : Option ((zS × Int32) ⊕ zS) :=
  (if ((zi 2)) ≤ u1 then some (.inr σ) else (fX10_results σ ((zi 9792)) u1).bind fun c8 => (zck 9 c8.1 x0 (fX10_empties c8.1 x0 c8.2)).bind fun c9 => (fX10_results c9 ((zi 11394)) u1).bind fun c10 => (zck 9 c10.1 x0 (fX10_empties c10.1 x0 c10.2)).bind fun c11 => (zgR 9 6 c11 x0).bind fun v12 => (zsI c11 v12 (((zi 41)) + u1) ((zi (-1)))).bind fun σ13 => some (.inl (σ13, u1 + (zi 1))))
def sX10_fails_30 (x0 : Nat) (z : (zS × Int32)) : Option ((zS × Int32) ⊕ zS) := sX10_fails_30b x0 z.1 z.2
def sX10_fails_75b (x0 : Nat) (σ : zS) (u1 : Int32) : Option ((zS × Int32) ⊕ zS) :=
  (if ((zi 4)) ≤ u1 then some (.inr σ) else (zgR 9 6 σ x0).bind fun v16 => (zgR 9 6 σ x0).bind fun v17 => (zaI σ v17 (((zi 124)) + u1)).bind fun v18 => (zsI σ v16 (((zi 13)) + u1) v18).bind fun σ19 => some (.inl (σ19, u1 + (zi 1))))
def sX10_fails_75 (x0 : Nat) (z : (zS × Int32)) : Option ((zS × Int32) ⊕ zS) := sX10_fails_75b x0 z.1 z.2
def sX10_fails_106b (x0 : Nat) (σ : zS) (u1 : Int32) : Option ((zS × Int32) ⊕ zS) :=
  (if ((zi 16)) ≤ u1 then some (.inr σ) else (zgR 9 6 σ x0).bind fun v22 => (zgR 9 6 σ x0).bind fun v23 => (zaI σ v23 (((zi 128)) + u1)).bind fun v24 => (zsI σ v22 (((zi 17)) + u1) v24).bind fun σ25 => some (.inl (σ25, u1 + (zi 1))))
def sX10_fails_106 (x0 : Nat) (z : (zS × Int32)) : Option ((zS × Int32) ⊕ zS) := sX10_fails_106b x0 z.1 z.2
def sX10_fails_140b (x0 : Nat) (σ : zS) (u1 : Int32) : Option ((zS × Int32) ⊕ zS) :=
  (if ((zi 67)) ≤ u1 then some (.inr σ) else (zgR 9 6 σ x0).bind fun v28 => (zsI σ v28 u1 ((zi 0))).bind fun σ29 => some (.inl (σ29, u1 + (zi 1))))
def sX10_fails_140 (x0 : Nat) (z : (zS × Int32)) : Option ((zS × Int32) ⊕ zS) := sX10_fails_140b x0 z.1 z.2
def sX10_fails_161b (x0 : Nat) (σ : zS) (u1 : Int32) : Option ((zS × Int32) ⊕ zS) :=
  (if ((zi 4)) ≤ u1 then some (.inr σ) else (zgR 9 6 σ x0).bind fun v32 => (zsI σ v32 (((zi 33)) + u1) ((zi 0))).bind fun σ33 => (zgR 9 6 σ33 x0).bind fun v34 => (zsI σ33 v34 (((zi 37)) + u1) ((zi (-1)))).bind fun σ35 => some (.inl (σ35, u1 + (zi 1))))
def sX10_fails_161 (x0 : Nat) (z : (zS × Int32)) : Option ((zS × Int32) ⊕ zS) := sX10_fails_161b x0 z.1 z.2
def fX10_fails (σ : zS) (x0 : Nat) : Option zS :=
  (zck 9 σ x0 (fX10_shows σ x0 )).bind fun c1 => (zgR 9 6 c1 x0).bind fun v2 => (zsI c1 v2 ((zi 67)) ((zi 0))).bind fun σ3 => (zgR 9 6 σ3 x0).bind fun v4 => (zgR 9 6 σ3 x0).bind fun v5 => (zaI σ3 v5 ((zi 7))).bind fun v6 => (zsI σ3 v4 ((zi 7)) (v6 + ((zi 1)))).bind fun σ7 => (zloop (sX10_fails_30 x0) zfuel (σ7, (zi 0))).bind fun o15 => (zloop (sX10_fails_75 x0) zfuel (o15, (zi 0))).bind fun o21 => (zloop (sX10_fails_106 x0) zfuel (o21, (zi 0))).bind fun o27 => (zloop (sX10_fails_140 x0) zfuel (o27, (zi 43))).bind fun o31 => (zloop (sX10_fails_161 x0) zfuel (o31, (zi 0))).bind fun o37 => (zck 9 o37 x0 (fX10_emptiesKept o37 x0 )).bind fun c38 => (zck 9 c38 x0 (fX10_laysDone c38 x0 )).bind fun c39 => some c39
def sX10_parts_26b (x0 : Nat) (x1 : Int32) (x2 : Int32) (x3 : Int32) (σ : zS) (u4 : Int32) : Option ((zS × Int32) ⊕ zS) :=
  (zgR 9 6 σ x0).bind fun v3 => (zaI σ v3 x3).bind fun v4 => (if v4 ≤ u4 then some (.inr σ) else (zck 9 σ x0 (fX10_at σ x0 x3 u4)).bind fun c5 => (zck 9 c5.1 x0 (fX10_keyOf c5.1 x0 x1 c5.2)).bind fun c6 => (zck 9 c6.1 x0 (fX10_ownerOf c6.1 x0 c6.2)).bind fun c7 => (fX10_keptIn c7.1 x1 c7.2).bind fun c8 => (zck 9 c8.1 x0 (fX10_at c8.1 x0 x3 u4)).bind fun c9 => (zck 9 c9.1 x0 (fX10_adds c9.1 x0 c8.2 c9.2)).bind fun c10 => some (.inl (c10, u4 + (zi 1))))
def sX10_parts_26 (x0 : Nat) (x1 : Int32) (x2 : Int32) (x3 : Int32) (z : (zS × Int32)) : Option ((zS × Int32) ⊕ zS) := sX10_parts_26b x0 x1 x2 x3 z.1 z.2
def sX10_parts_12b (x0 : Nat) (x1 : Int32) (σ : zS) (u2 : Int32) : Option ((zS × Int32) ⊕ zS) :=
  (if ((zi 4)) ≤ u2 then some (.inr σ) else (fX10_doneIn σ x1 u2).bind fun c2 => (zloop (sX10_parts_26 x0 x1 u2 c2.2) zfuel (c2.1, (zi 0))).bind fun o12 => some (.inl (o12, u2 + (zi 1))))
def sX10_parts_12 (x0 : Nat) (x1 : Int32) (z : (zS × Int32)) : Option ((zS × Int32) ⊕ zS) := sX10_parts_12b x0 x1 z.1 z.2
def sX10_parts_2b (x0 : Nat) (σ : zS) (u1 : Int32) : Option ((zS × Int32) ⊕ zS) :=
  (zgI 9 1 σ x0).bind fun v1 => (if v1 ≤ u1 then some (.inr σ) else (zloop (sX10_parts_12 x0 u1) zfuel (σ, (zi 0))).bind fun o14 => some (.inl (o14, u1 + (zi 1))))
def sX10_parts_2 (x0 : Nat) (z : (zS × Int32)) : Option ((zS × Int32) ⊕ zS) := sX10_parts_2b x0 z.1 z.2
def sX10_parts_112b (x0 : Nat) (x1 : Int32) (x2 : Int32) (x3 : Int32) (σ : zS) (u4 : Int32) : Option ((zS × Int32) ⊕ zS) :=
  (zgR 9 6 σ x0).bind fun v19 => (zaI σ v19 x3).bind fun v20 => (if v20 ≤ u4 then some (.inr σ) else (zck 9 σ x0 (fX10_at σ x0 x3 u4)).bind fun c21 => (zck 9 c21.1 x0 (fX10_ownerOf c21.1 x0 (c21.2 / ((zi 20000))))).bind fun c22 => (fX10_keptOut c22.1 c22.2 x1).bind fun c23 => (zck 9 c23.1 x0 (fX10_at c23.1 x0 x3 u4)).bind fun c24 => (zck 9 c24.1 x0 (fX10_adds c24.1 x0 c23.2 c24.2)).bind fun c25 => some (.inl (c25, u4 + (zi 1))))
def sX10_parts_112 (x0 : Nat) (x1 : Int32) (x2 : Int32) (x3 : Int32) (z : (zS × Int32)) : Option ((zS × Int32) ⊕ zS) := sX10_parts_112b x0 x1 x2 x3 z.1 z.2
def sX10_parts_98b (x0 : Nat) (x1 : Int32) (σ : zS) (u2 : Int32) : Option ((zS × Int32) ⊕ zS) :=
  (if ((zi 4)) ≤ u2 then some (.inr σ) else (fX10_doneOut σ u2 x1).bind fun c18 => (zloop (sX10_parts_112 x0 x1 u2 c18.2) zfuel (c18.1, (zi 0))).bind fun o27 => some (.inl (o27, u2 + (zi 1))))
def sX10_parts_98 (x0 : Nat) (x1 : Int32) (z : (zS × Int32)) : Option ((zS × Int32) ⊕ zS) := sX10_parts_98b x0 x1 z.1 z.2
def sX10_parts_88b (x0 : Nat) (σ : zS) (u1 : Int32) : Option ((zS × Int32) ⊕ zS) :=
  (zgI 9 2 σ x0).bind fun v17 => (if v17 ≤ u1 then some (.inr σ) else (zloop (sX10_parts_98 x0 u1) zfuel (σ, (zi 0))).bind fun o29 => some (.inl (o29, u1 + (zi 1))))
def sX10_parts_88 (x0 : Nat) (z : (zS × Int32)) : Option ((zS × Int32) ⊕ zS) := sX10_parts_88b x0 z.1 z.2
def fX10_parts (σ : zS) (x0 : Nat) : Option zS :=
  (zloop (sX10_parts_2 x0) zfuel (σ, (zi 0))).bind fun o16 => (zloop (sX10_parts_88 x0) zfuel (o16, (zi 0))).bind fun o31 => (zck 9 o31 x0 (fX10_laysKept o31 x0 )).bind fun c32 => (zck 9 c32 x0 (fX10_emptiesKept c32 x0 )).bind fun c33 => (zck 9 c33 x0 (fX10_laysDone c33 x0 )).bind fun c34 => some c34
def jX10_rescales_53_L27 (σ : zS) (x1 : Int32) (x2 : Int32) (x3 : Int32) (x4 : Int32)  : Option ((zS × Int32 × Int32) ⊕ (zS × Int32)) :=
  some (.inl (σ, x3, x4 + (zi 1)))
def sX10_rescales_27b (x1 : Int32) (x2 : Int32) (σ : zS) (u3 : Int32) (u4 : Int32) : Option ((zS × Int32 × Int32) ⊕ (zS × Int32)) :=
  (if ((zi 8)) ≤ u4 then some (.inr (σ, u3)) else (fX10_ownerAmong σ u4 x2).bind fun c7 => (fX10_ownerAmong c7.1 u4 x1).bind fun c8 => (if c7.2 = c8.2 then jX10_rescales_53_L27 c8.1 x1 x2 u3 u4 else jX10_rescales_53_L27 c8.1 x1 x2 (u3 + ((zi 1))) u4))
def sX10_rescales_27 (x1 : Int32) (x2 : Int32) (z : (zS × Int32 × Int32)) : Option ((zS × Int32 × Int32) ⊕ (zS × Int32)) := sX10_rescales_27b x1 x2 z.1 z.2.1 z.2.2
def fX10_rescales (σ : zS) (x0 : Nat) (x1 : Int32) : Option (zS × Int32) :=
  (zck 9 σ x0 (fX10_fails σ x0 )).bind fun c1 => (zgR 9 6 c1 x0).bind fun v2 => (zaI c1 v2 ((zi 1))).bind fun v3 => (zgR 9 6 c1 x0).bind fun v4 => (zsI c1 v4 ((zi 1)) x1).bind fun σ5 => (zck 9 σ5 x0 (fX10_parts σ5 x0 )).bind fun c6 => (zloop (sX10_rescales_27 x1 v3) zfuel (c6, (zi 0), (zi 0))).bind fun o11 => some (o11.1, o11.2)
def fX10_fail (σ : zS) (x0 : Nat) : Option (zS × Int32) :=
  (zpI 9 0 σ x0 ((zi 0))).bind fun σ1 => (zck 9 σ1 x0 (fX10_starts σ1 x0 )).bind fun c2 => (zck 9 c2 x0 (fX10_risk c2 x0 )).bind fun c3 => (zck 9 c3.1 x0 (fX10_fails c3.1 x0 )).bind fun c4 => (zck 9 c4 x0 (fX10_done c4 x0 c3.2)).bind fun c5 => some (c5.1, c5.2)
def fX10_isMany (σ : zS) (x0 : Int32) : Option (zS × Int32) :=
  (fX10_isIn σ x0.toInt64 1 4).bind fun c1 => zrZ c1.1 c1.2
def fX10_rescale (σ : zS) (x0 : Nat) (x1 : Int32) : Option (zS × Int32) :=
  (fX10_isMany σ x1).bind fun c1 => (zck 9 c1.1 x0 (fX10_is c1.1 x0 c1.2)).bind fun c2 => (if c2.2 = ((zi 0)) then some (c2.1, (zi 0)) else (zck 9 c2.1 x0 (fX10_starts c2.1 x0 )).bind fun c3 => (zck 9 c3 x0 (fX10_rescales c3 x0 x1)).bind fun c4 => (zck 9 c4.1 x0 (fX10_done c4.1 x0 c4.2)).bind fun c5 => some (c5.1, c5.2))
def fX10_changes (σ : zS) (x0 : Nat) (x1 : Int32) (x2 : Int32) : Option (zS × Int32) :=
  (zck 9 σ x0 (fX10_starts σ x0 )).bind fun c1 => (zgR 9 6 c1 x0).bind fun v2 => (zaI c1 v2 x1).bind fun v3 => (zgR 9 6 c1 x0).bind fun v4 => (zsI c1 v4 x1 x2).bind fun σ5 => (zck 9 σ5 x0 (fX10_done σ5 x0 v3)).bind fun c6 => some (c6.1, c6.2)
def fX10_setRoom (σ : zS) (x0 : Nat) (x1 : Int32) : Option (zS × Int32) :=
  (fX10_isIn σ x1.toInt64 1 9).bind fun c1 => (zck 9 c1.1 x0 (fX10_is c1.1 x0 c1.2)).bind fun c2 => (if c2.2 = ((zi 0)) then some (c2.1, (zi 0)) else (zck 9 c2.1 x0 (fX10_changes c2.1 x0 ((zi 2)) x1)).bind fun c3 => some (c3.1, c3.2))
def fX10_isSource (σ : zS) (x0 : Nat) (x1 : Int32) : Option (zS × Int32) :=
  (zgI 9 1 σ x0).bind fun v1 => (fX10_isIn σ x1.toInt64 0 ((v1 - ((zi 1)) : Int32).toInt64)).bind fun c2 => zrZ c2.1 c2.2
def fX10_setLag (σ : zS) (x0 : Nat) (x1 : Int32) (x2 : Int32) : Option (zS × Int32) :=
  (zck 9 σ x0 (fX10_isSource σ x0 x1)).bind fun c1 => (zck 9 c1.1 x0 (fX10_is c1.1 x0 c1.2)).bind fun c2 => (if c2.2 = ((zi 0)) then some (c2.1, (zi 0)) else (fX10_isIn c2.1 x2.toInt64 0 9).bind fun c3 => (zck 9 c3.1 x0 (fX10_may c3.1 x0 c3.2 ((zi 2)))).bind fun c4 => (if c4.2 = ((zi 0)) then some (c4.1, (zi 0)) else (zck 9 c4.1 x0 (fX10_changes c4.1 x0 (((zi 9)) + x1) x2)).bind fun c5 => some (c5.1, c5.2)))
def fX10_setEvery (σ : zS) (x0 : Nat) (x1 : Int32) (x2 : Int32) : Option (zS × Int32) :=
  (fX10_isIn σ x1.toInt64 0 99).bind fun c1 => (zck 9 c1.1 x0 (fX10_is c1.1 x0 c1.2)).bind fun c2 => (if c2.2 = ((zi 0)) then some (c2.1, (zi 0)) else (zck 9 c2.1 x0 (fX10_changes c2.1 x0 ((zi 3)) x1)).bind fun c3 => (zgR 9 6 c3.1 x0).bind fun v4 => (if x2 = ((zi 0)) then (zsI c3.1 v4 ((zi 4)) ((zi 0))).bind fun σ5 => some (σ5, c3.2) else (zsI c3.1 v4 ((zi 4)) ((zi 1))).bind fun σ6 => some (σ6, c3.2)))
def sX10_completesWithin_10b (x0 : Nat) (x1 : Int32) (x2 : Int32) (σ : zS) (u3 : Int32) : Option ((zS × Int32) ⊕ ((zS × Int32) ⊕ zS)) :=
  (if x1 < u3 then some (.inr (.inr σ)) else (zck 9 σ x0 (fX10_ticks σ x0 )).bind fun c3 => (zgR 9 6 c3 x0).bind fun v4 => (zaI c3 v4 ((zi 6))).bind fun v5 => (if v5 ≤ x2 then some (.inl (c3, u3 + (zi 1))) else some (.inr (.inl (c3, u3)))))
def sX10_completesWithin_10 (x0 : Nat) (x1 : Int32) (x2 : Int32) (z : (zS × Int32)) : Option ((zS × Int32) ⊕ ((zS × Int32) ⊕ zS)) := sX10_completesWithin_10b x0 x1 x2 z.1 z.2
def fX10_completesWithin (σ : zS) (x0 : Nat) (x1 : Int32) : Option (zS × Int32) :=
  (zgR 9 6 σ x0).bind fun v1 => (zaI σ v1 ((zi 6))).bind fun v2 => (zloop (sX10_completesWithin_10 x0 x1 v2) zfuel (σ, (zi 1))).bind fun o8 => (match o8 with | (.inl z9) => some (z9.1, z9.2) | (.inr z10) => some (z10, (zi (-1))))
def fX10_completesIn (σ : zS) (x0 : Nat) (x1 : Int32) : Option (zS × Int32) :=
  (fX10_isTicks σ x1).bind fun c1 => (zck 9 c1.1 x0 (fX10_is c1.1 x0 c1.2)).bind fun c2 => (if c2.2 = ((zi 0)) then some (c2.1, (zi 0)) else (zgR 9 6 c2.1 x0).bind fun v3 => (zaI c2.1 v3 ((zi 67))).bind fun v4 => (if v4 = ((zi 0)) then some (c2.1, (zi (-1))) else (zck 9 c2.1 x0 (fX10_tries c2.1 x0 )).bind fun c5 => (zck 9 c5 x0 (fX10_completesWithin c5 x0 x1)).bind fun c6 => (zck 9 c6.1 x0 (fX10_laysBack c6.1 x0 c6.2)).bind fun c7 => some (c7.1, c7.2)))
def jX10_wouldTake_32 (σ : zS) (x0 : Nat) (y0 : Int32) (y1 : Nat) : Option (zS × Int32) :=
  (zck 9 σ y1 (fX10_begins σ y1 y0)).bind fun c5 => (zck 9 c5 x0 (fX10_completesWithin c5 x0 ((zi 500)))).bind fun c6 => (zck 9 c6.1 x0 (fX10_laysBack c6.1 x0 c6.2)).bind fun c7 => some (c7.1, c7.2)
def fX10_wouldTake (σ : zS) (x0 : Nat) (x1 : Int32) : Option (zS × Int32) :=
  (zpI 9 0 σ x0 ((zi 0))).bind fun σ1 => (zgR 9 6 σ1 x0).bind fun v2 => (zaI σ1 v2 ((zi 67))).bind fun v3 => (if v3 = ((zi 1)) then some (σ1, (zi (-1))) else (zck 9 σ1 x0 (fX10_tries σ1 x0 )).bind fun c4 => (if x1 = ((zi 0)) then jX10_wouldTake_32 c4 x0 ((zi 0)) x0 else jX10_wouldTake_32 c4 x0 ((zi 1)) x0))
def sX10_allIn_5b (x0 : Nat) (x1 : Int32) (x2 : Int32) (σ : zS) (u3 : Int32) (u4 : Int32) : Option ((zS × Int32 × Int32) ⊕ (zS × Int32)) :=
  (if ((zi 16)) ≤ u4 then some (.inr (σ, u3)) else (zgR 9 6 σ x0).bind fun v1 => (zaI σ v1 (x1 + (((zi 202)) * u4))).bind fun v2 => some (.inl (σ, u3 + v2, u4 + (zi 1))))
def sX10_allIn_5 (x0 : Nat) (x1 : Int32) (x2 : Int32) (z : (zS × Int32 × Int32)) : Option ((zS × Int32 × Int32) ⊕ (zS × Int32)) := sX10_allIn_5b x0 x1 x2 z.1 z.2.1 z.2.2
def sX10_allIn_37b (x0 : Nat) (x2 : Int32) (σ : zS) (u3 : Int32) (u4 : Int32) : Option ((zS × Int32 × Int32) ⊕ (zS × Int32)) :=
  (if ((zi 8)) ≤ u4 then some (.inr (σ, u3)) else (zgR 9 6 σ x0).bind fun v5 => (zaI σ v5 (x2 + (((zi 802)) * u4))).bind fun v6 => some (.inl (σ, u3 + v6, u4 + (zi 1))))
def sX10_allIn_37 (x0 : Nat) (x2 : Int32) (z : (zS × Int32 × Int32)) : Option ((zS × Int32 × Int32) ⊕ (zS × Int32)) := sX10_allIn_37b x0 x2 z.1 z.2.1 z.2.2
def fX10_allIn (σ : zS) (x0 : Nat) (x1 : Int32) (x2 : Int32) : Option (zS × Int32) :=
  (zloop (sX10_allIn_5 x0 x1 x2) zfuel (σ, (zi 0), (zi 0))).bind fun o4 => (zloop (sX10_allIn_37 x0 x2) zfuel (o4.1, o4.2, (zi 0))).bind fun o8 => some (o8.1, o8.2)
def jX10_wouldKeep_53 (σ : zS)  (y0 : Int32) (y1 : Nat) : Option (zS × Int32) :=
  (zck 9 σ y1 (fX10_laysBack σ y1 y0)).bind fun c8 => some (c8.1, c8.2)
def fX10_wouldKeep (σ : zS) (x0 : Nat) : Option (zS × Int32) :=
  (zpI 9 0 σ x0 ((zi 0))).bind fun σ1 => (zgR 9 6 σ1 x0).bind fun v2 => (zaI σ1 v2 ((zi 67))).bind fun v3 => (if v3 = ((zi 1)) then some (σ1, (zi (-1))) else (zck 9 σ1 x0 (fX10_tries σ1 x0 )).bind fun c4 => (zck 9 c4 x0 (fX10_begins c4 x0 ((zi 1)))).bind fun c5 => (zck 9 c5 x0 (fX10_completesWithin c5 x0 ((zi 500)))).bind fun c6 => (if c6.2 = ((zi (-1))) then jX10_wouldKeep_53 c6.1  ((zi (-1))) x0 else (zck 9 c6.1 x0 (fX10_allIn c6.1 x0 ((zi 24246)) ((zi 27478)))).bind fun c7 => jX10_wouldKeep_53 c7.1  c7.2 x0))
def sX10_isQuiet_2b (x0 : Nat) (σ : zS) (u1 : Int32) : Option ((zS × Int32) ⊕ (zS ⊕ zS)) :=
  (zgI 9 1 σ x0).bind fun v1 => (if v1 ≤ u1 then some (.inr (.inr σ)) else (zgR 9 6 σ x0).bind fun v2 => (zaI σ v2 (((zi 13)) + u1)).bind fun v3 => (zgR 9 3 σ x0).bind fun v4 => (zaI σ v4 u1).bind fun v5 => (if v5 ≤ v3 then some (.inl (σ, u1 + (zi 1))) else some (.inr (.inl σ))))
def sX10_isQuiet_2 (x0 : Nat) (z : (zS × Int32)) : Option ((zS × Int32) ⊕ (zS ⊕ zS)) := sX10_isQuiet_2b x0 z.1 z.2
def sX10_isQuiet_38b (x0 : Nat) (σ : zS) (u1 : Int32) : Option ((zS × Int32) ⊕ (zS ⊕ zS)) :=
  (if ((zi 16)) ≤ u1 then some (.inr (.inr σ)) else (zck 9 σ x0 (fX10_things σ x0 (((zi 144)) + (((zi 202)) * u1)))).bind fun c11 => (if c11.2 ≤ ((zi 0)) then some (.inl (c11.1, u1 + (zi 1))) else some (.inr (.inl c11.1))))
def sX10_isQuiet_38 (x0 : Nat) (z : (zS × Int32)) : Option ((zS × Int32) ⊕ (zS ⊕ zS)) := sX10_isQuiet_38b x0 z.1 z.2
def sX10_isQuiet_70b (x0 : Nat) (σ : zS) (u1 : Int32) : Option ((zS × Int32) ⊕ (zS ⊕ zS)) :=
  (if ((zi 8)) ≤ u1 then some (.inr (.inr σ)) else (zck 9 σ x0 (fX10_things σ x0 (((zi 3376)) + (((zi 802)) * u1)))).bind fun c17 => (if c17.2 ≤ ((zi 0)) then some (.inl (c17.1, u1 + (zi 1))) else some (.inr (.inl c17.1))))
def sX10_isQuiet_70 (x0 : Nat) (z : (zS × Int32)) : Option ((zS × Int32) ⊕ (zS ⊕ zS)) := sX10_isQuiet_70b x0 z.1 z.2
def sX10_isQuiet_102b (x0 : Nat) (σ : zS) (u1 : Int32) : Option ((zS × Int32) ⊕ (zS ⊕ zS)) :=
  (zgI 9 2 σ x0).bind fun v23 => (if v23 ≤ u1 then some (.inr (.inr σ)) else (zgR 9 6 σ x0).bind fun v24 => (fX10_results σ ((zi 9792)) u1).bind fun c25 => (zaI c25.1 v24 c25.2).bind fun v26 => (zgR 9 6 c25.1 x0).bind fun v27 => (fX10_results c25.1 ((zi 11394)) u1).bind fun c28 => (zaI c28.1 v27 c28.2).bind fun v29 => (if (v26 + v29) ≤ ((zi 0)) then some (.inl (c28.1, u1 + (zi 1))) else some (.inr (.inl c28.1))))
def sX10_isQuiet_102 (x0 : Nat) (z : (zS × Int32)) : Option ((zS × Int32) ⊕ (zS ⊕ zS)) := sX10_isQuiet_102b x0 z.1 z.2
def fX10_isQuiet (σ : zS) (x0 : Nat) : Option (zS × Int32) :=
  (zloop (sX10_isQuiet_2 x0) zfuel (σ, (zi 0))).bind fun o8 => (match o8 with | (.inl z9) => zrZ z9 ((zi 0)) | (.inr z10) => (zloop (sX10_isQuiet_38 x0) zfuel (z10, (zi 0))).bind fun o14 => (match o14 with | (.inl z15) => zrZ z15 ((zi 0)) | (.inr z16) => (zloop (sX10_isQuiet_70 x0) zfuel (z16, (zi 0))).bind fun o20 => (match o20 with | (.inl z21) => zrZ z21 ((zi 0)) | (.inr z22) => (zloop (sX10_isQuiet_102 x0) zfuel (z22, (zi 0))).bind fun o32 => (match o32 with | (.inl z33) => zrZ z33 ((zi 0)) | (.inr z34) => zrZ z34 ((zi 1))))))
def jX10_quietWithin_29_L2 (σ : zS) (x0 : Nat) (x1 : Int32)  : Option ((zS × Int32) ⊕ ((zS × Int32) ⊕ zS)) :=
  some (.inl (σ, x1 + (zi 1)))
def sX10_quietWithin_2b (x0 : Nat) (σ : zS) (u1 : Int32) : Option ((zS × Int32) ⊕ ((zS × Int32) ⊕ zS)) :=
  (if ((zi 1000)) < u1 then some (.inr (.inr σ)) else (zck 9 σ x0 (fX10_isQuiet σ x0 )).bind fun c1 => (if c1.2 = ((zi 0)) then (if ((zi 1000)) ≤ u1 then jX10_quietWithin_29_L2 c1.1 x0 u1 else (zck 9 c1.1 x0 (fX10_ticks c1.1 x0 )).bind fun c2 => jX10_quietWithin_29_L2 c2 x0 u1) else some (.inr (.inl (c1.1, u1)))))
def sX10_quietWithin_2 (x0 : Nat) (z : (zS × Int32)) : Option ((zS × Int32) ⊕ ((zS × Int32) ⊕ zS)) := sX10_quietWithin_2b x0 z.1 z.2
def fX10_quietWithin (σ : zS) (x0 : Nat) : Option (zS × Int32) :=
  (zloop (sX10_quietWithin_2 x0) zfuel (σ, (zi 0))).bind fun o6 => (match o6 with | (.inl z7) => some (z7.1, z7.2) | (.inr z8) => some (z8, (zi (-1))))
def fX10_quietIn (σ : zS) (x0 : Nat) : Option (zS × Int32) :=
  (zpI 9 0 σ x0 ((zi 0))).bind fun σ1 => (zck 9 σ1 x0 (fX10_tries σ1 x0 )).bind fun c2 => (zck 9 c2 x0 (fX10_quietWithin c2 x0 )).bind fun c3 => (zck 9 c3.1 x0 (fX10_laysBack c3.1 x0 c3.2)).bind fun c4 => some (c4.1, c4.2)
def sX10_allHandled_4b (x0 : Nat) (σ : zS) (u1 : Int32) (u2 : Int32) : Option ((zS × Int32 × Int32) ⊕ (zS × Int32)) :=
  (zgR 9 6 σ x0).bind fun v1 => (zaI σ v1 ((zi 1))).bind fun v2 => (if v2 ≤ u2 then some (.inr (σ, u1)) else (zgR 9 6 σ x0).bind fun v3 => (zaI σ v3 (((zi 33)) + u2)).bind fun v4 => some (.inl (σ, u1 + v4, u2 + (zi 1))))
def sX10_allHandled_4 (x0 : Nat) (z : (zS × Int32 × Int32)) : Option ((zS × Int32 × Int32) ⊕ (zS × Int32)) := sX10_allHandled_4b x0 z.1 z.2.1 z.2.2
def fX10_allHandled (σ : zS) (x0 : Nat) : Option (zS × Int32) :=
  (zloop (sX10_allHandled_4 x0) zfuel (σ, (zi 0), (zi 0))).bind fun o6 => some (o6.1, o6.2)
def sX10_handledWith_13b (x0 : Nat) (x2 : Int32) (σ : zS) (u4 : Int32) : Option ((zS × Int32) ⊕ zS) :=
  (if x2 ≤ u4 then some (.inr σ) else (zck 9 σ x0 (fX10_ticks σ x0 )).bind fun c3 => some (.inl (c3, u4 + (zi 1))))
def sX10_handledWith_13 (x0 : Nat) (x2 : Int32) (z : (zS × Int32)) : Option ((zS × Int32) ⊕ zS) := sX10_handledWith_13b x0 x2 z.1 z.2
def fX10_handledWith (σ : zS) (x0 : Nat) (x1 : Int32) (x2 : Int32) : Option (zS × Int32) :=
  (zck 9 σ x0 (fX10_tries σ x0 )).bind fun c1 => (zck 9 c1 x0 (fX10_rescales c1 x0 x1)).bind fun c2 => (zloop (sX10_handledWith_13 x0 x2) zfuel (c2.1, (zi 0))).bind fun o5 => (zck 9 o5 x0 (fX10_allHandled o5 x0 )).bind fun c6 => (zck 9 c6.1 x0 (fX10_laysBack c6.1 x0 c6.2)).bind fun c7 => some (c7.1, c7.2)
def jX10_bestInstances_50_L20 (σ : zS) (x0 : Nat) (x1 : Int32) (x2 : Int32) (x3 : Int32) (x4 : Int32)  : Option ((zS × Int32 × Int32 × Int32) ⊕ (zS × Int32)) :=
  some (.inl (σ, x2, x3, x4 + (zi 1)))
def sX10_bestInstances_20b (x0 : Nat) (x1 : Int32) (σ : zS) (u2 : Int32) (u3 : Int32) (u4 : Int32) : Option ((zS × Int32 × Int32 × Int32) ⊕ (zS × Int32)) :=
  (if ((zi 4)) < u4 then some (.inr (σ, u2)) else (zck 9 σ x0 (fX10_handledWith σ x0 u4 x1)).bind fun c3 => (if u3 < c3.2 then jX10_bestInstances_50_L20 c3.1 x0 x1 u4 c3.2 u4 else jX10_bestInstances_50_L20 c3.1 x0 x1 u2 u3 u4))
def sX10_bestInstances_20 (x0 : Nat) (x1 : Int32) (z : (zS × Int32 × Int32 × Int32)) : Option ((zS × Int32 × Int32 × Int32) ⊕ (zS × Int32)) := sX10_bestInstances_20b x0 x1 z.1 z.2.1 z.2.2.1 z.2.2.2
def fX10_bestInstances (σ : zS) (x0 : Nat) (x1 : Int32) : Option (zS × Int32) :=
  (fX10_isTicks σ x1).bind fun c1 => (zck 9 c1.1 x0 (fX10_is c1.1 x0 c1.2)).bind fun c2 => (if c2.2 = ((zi 0)) then some (c2.1, (zi 0)) else (zloop (sX10_bestInstances_20 x0 x1) zfuel (c2.1, (zi 1), (zi (-1)), (zi 1))).bind fun o6 => some (o6.1, o6.2))
def fX10_isInstance (σ : zS) (x0 : Nat) (x1 : Int32) : Option (zS × Int32) :=
  (zgR 9 6 σ x0).bind fun v1 => (zaI σ v1 ((zi 1))).bind fun v2 => (fX10_isIn σ x1.toInt64 0 ((v2 - ((zi 1)) : Int32).toInt64)).bind fun c3 => zrZ c3.1 c3.2
def fX10_isSink (σ : zS) (x0 : Nat) (x1 : Int32) : Option (zS × Int32) :=
  (zgI 9 2 σ x0).bind fun v1 => (fX10_isIn σ x1.toInt64 0 ((v1 - ((zi 1)) : Int32).toInt64)).bind fun c2 => zrZ c2.1 c2.2
def fX10_isKey (σ : zS) (x0 : Int32) : Option (zS × Int32) :=
  (fX10_isIn σ x0.toInt64 0 15).bind fun c1 => zrZ c1.1 c1.2
def fX10_count (σ : zS) (x0 : Nat) (x1 : Int32) : Option (zS × Int32) :=
  (zpI 9 0 σ x0 ((zi 0))).bind fun σ1 => (if x1 = (zi 0) then (zgI 9 1 σ1 x0).bind fun v3 => some (σ1, v3) else (if x1 = (zi 1) then (zgR 9 6 σ1 x0).bind fun v5 => (zaI σ1 v5 ((zi 1))).bind fun v6 => some (σ1, v6) else (if x1 = (zi 2) then (zgI 9 2 σ1 x0).bind fun v8 => some (σ1, v8) else (if x1 = (zi 3) then (zgR 9 6 σ1 x0).bind fun v10 => (zaI σ1 v10 ((zi 2))).bind fun v11 => some (σ1, v11) else (if x1 = (zi 4) then (zgR 9 6 σ1 x0).bind fun v13 => (zaI σ1 v13 ((zi 3))).bind fun v14 => some (σ1, v14) else (if x1 = (zi 5) then (zgR 9 6 σ1 x0).bind fun v16 => (zaI σ1 v16 ((zi 0))).bind fun v17 => some (σ1, v17) else (if x1 = (zi 6) then (zgR 9 6 σ1 x0).bind fun v19 => (zaI σ1 v19 ((zi 5))).bind fun v20 => some (σ1, v20) else (if x1 = (zi 7) then (zgR 9 6 σ1 x0).bind fun v22 => (zaI σ1 v22 ((zi 6))).bind fun v23 => some (σ1, v23) else (if x1 = (zi 8) then (zgR 9 6 σ1 x0).bind fun v25 => (zaI σ1 v25 ((zi 7))).bind fun v26 => some (σ1, v26) else (if x1 = (zi 9) then (zgR 9 6 σ1 x0).bind fun v28 => (zaI σ1 v28 ((zi 8))).bind fun v29 => some (σ1, v29) else (if x1 = (zi 10) then (zgI 9 12 σ1 x0).bind fun v31 => some (σ1, v31) else (if x1 = ((zi 11)) then (zgR 9 6 σ1 x0).bind fun v32 => (zaI σ1 v32 ((zi 4))).bind fun v33 => some (σ1, v33) else some (σ1, (zi (-1)))))))))))))))
def jX10_source_26 (σ : zS) (x0 : Nat) (x1 : Int32) (x2 : Int32) (y0 : Int32) (y1 : Nat) : Option (zS × Int32) :=
  (zck 9 σ y1 (fX10_is σ y1 y0)).bind fun c2 => (if c2.2 = ((zi 0)) then some (c2.1, (zi 0)) else (if x2 = (zi 0) then (zgR 9 3 c2.1 x0).bind fun v4 => (zaI c2.1 v4 x1).bind fun v5 => some (c2.1, v5) else (if x2 = (zi 1) then (zgR 9 4 c2.1 x0).bind fun v7 => (zaI c2.1 v7 x1).bind fun v8 => some (c2.1, v8) else (if x2 = (zi 2) then (zgR 9 6 c2.1 x0).bind fun v10 => (zaI c2.1 v10 (((zi 9)) + x1)).bind fun v11 => some (c2.1, v11) else (zgR 9 6 c2.1 x0).bind fun v12 => (zaI c2.1 v12 (((zi 13)) + x1)).bind fun v13 => some (c2.1, v13)))))
def jX10_source_25 (σ : zS) (x0 : Nat) (x1 : Int32) (x2 : Int32) (y0 : Nat) : Option (zS × Int32) :=
  jX10_source_26 σ x0 x1 x2 ((zi 0)) y0
def fX10_source (σ : zS) (x0 : Nat) (x1 : Int32) (x2 : Int32) : Option (zS × Int32) :=
  (zck 9 σ x0 (fX10_isSource σ x0 x1)).bind fun c1 => (if c1.2 = ((zi 0)) then jX10_source_25 c1.1 x0 x1 x2 x0 else (fX10_isIn c1.1 x2.toInt64 0 3).bind fun c15 => (if c15.2 = ((zi 0)) then jX10_source_25 c15.1 x0 x1 x2 x0 else jX10_source_26 c15.1 x0 x1 x2 ((zi 1)) x0))
def jX10_record_24 (σ : zS) (x0 : Nat) (x1 : Int32) (x2 : Int32) (x3 : Int32) (y0 : Int32) (y1 : Nat) : Option (zS × Int32) :=
  (zck 9 σ y1 (fX10_is σ y1 y0)).bind fun c2 => (if c2.2 = ((zi 0)) then some (c2.1, (zi 0)) else (zgR 9 3 c2.1 x0).bind fun v3 => (zaI c2.1 v3 x1).bind fun v4 => (fX10_isIn c2.1 x2.toInt64 0 ((v4 - ((zi 1)) : Int32).toInt64)).bind fun c5 => (zck 9 c5.1 x0 (fX10_is c5.1 x0 c5.2)).bind fun c6 => (if c6.2 = ((zi 0)) then some (c6.1, (zi 0)) else (if x3 = ((zi 0)) then (zck 9 c6.1 x0 (fX10_keyOf c6.1 x0 x1 x2)).bind fun c8 => some (c8.1, c8.2) else (zck 9 c6.1 x0 (fX10_valueOf c6.1 x0 x1 x2)).bind fun c7 => some (c7.1, c7.2))))
def jX10_record_23 (σ : zS) (x0 : Nat) (x1 : Int32) (x2 : Int32) (x3 : Int32) (y0 : Nat) : Option (zS × Int32) :=
  jX10_record_24 σ x0 x1 x2 x3 ((zi 0)) y0
def fX10_record (σ : zS) (x0 : Nat) (x1 : Int32) (x2 : Int32) (x3 : Int32) : Option (zS × Int32) :=
  (zck 9 σ x0 (fX10_isSource σ x0 x1)).bind fun c1 => (if c1.2 = ((zi 0)) then jX10_record_23 c1.1 x0 x1 x2 x3 x0 else (fX10_isIn c1.1 x3.toInt64 0 1).bind fun c12 => (if c12.2 = ((zi 0)) then jX10_record_23 c12.1 x0 x1 x2 x3 x0 else jX10_record_24 c12.1 x0 x1 x2 x3 ((zi 1)) x0))
def fX10_owner (σ : zS) (x0 : Nat) (x1 : Int32) : Option (zS × Int32) :=
  (fX10_isKey σ x1).bind fun c1 => (zck 9 c1.1 x0 (fX10_is c1.1 x0 c1.2)).bind fun c2 => (if c2.2 = ((zi 0)) then some (c2.1, (zi 0)) else (zck 9 c2.1 x0 (fX10_ownerOf c2.1 x0 x1)).bind fun c3 => some (c3.1, c3.2))
def fX10_sum (σ : zS) (x0 : Nat) (x1 : Int32) : Option (zS × Int32) :=
  (fX10_isKey σ x1).bind fun c1 => (zck 9 c1.1 x0 (fX10_is c1.1 x0 c1.2)).bind fun c2 => (if c2.2 = ((zi 0)) then some (c2.1, (zi 0)) else (zgR 9 6 c2.1 x0).bind fun v3 => (zaI c2.1 v3 (((zi 17)) + x1)).bind fun v4 => some (c2.1, v4))
def jX10_groupsOf_28_L4 (σ : zS) (x0 : Nat) (x1 : Int32) (x2 : Int32) (x3 : Int32)  : Option ((zS × Int32 × Int32) ⊕ (zS × Int32)) :=
  some (.inl (σ, x2, x3 + (zi 1)))
def sX10_groupsOf_4b (x0 : Nat) (x1 : Int32) (σ : zS) (u2 : Int32) (u3 : Int32) : Option ((zS × Int32 × Int32) ⊕ (zS × Int32)) :=
  (if ((zi 8)) ≤ u3 then some (.inr (σ, u2)) else (zgR 9 6 σ x0).bind fun v1 => (zaI σ v1 ((zi 1))).bind fun v2 => (fX10_ownerAmong σ u3 v2).bind fun c3 => (if c3.2 = x1 then jX10_groupsOf_28_L4 c3.1 x0 x1 (u2 + ((zi 1))) u3 else jX10_groupsOf_28_L4 c3.1 x0 x1 u2 u3))
def sX10_groupsOf_4 (x0 : Nat) (x1 : Int32) (z : (zS × Int32 × Int32)) : Option ((zS × Int32 × Int32) ⊕ (zS × Int32)) := sX10_groupsOf_4b x0 x1 z.1 z.2.1 z.2.2
def fX10_groupsOf (σ : zS) (x0 : Nat) (x1 : Int32) : Option (zS × Int32) :=
  (zloop (sX10_groupsOf_4 x0 x1) zfuel (σ, (zi 0), (zi 0))).bind fun o6 => some (o6.1, o6.2)
def jX10_blockedOf_35_L4 (σ : zS) (x0 : Nat) (x1 : Int32) (x2 : Int32) (x3 : Int32)  : Option ((zS × Int32 × Int32) ⊕ (zS × Int32)) :=
  some (.inl (σ, x2, x3 + (zi 1)))
def sX10_blockedOf_4b (x0 : Nat) (x1 : Int32) (σ : zS) (u2 : Int32) (u3 : Int32) : Option ((zS × Int32 × Int32) ⊕ (zS × Int32)) :=
  (zgI 9 1 σ x0).bind fun v1 => (if v1 ≤ u3 then some (.inr (σ, u2)) else (zgR 9 6 σ x0).bind fun v2 => (fX10_channelIn σ u3 x1).bind fun c3 => (zaI c3.1 v2 (((zi 43)) + c3.2)).bind fun v4 => (if v4 = ((zi 1)) then jX10_blockedOf_35_L4 c3.1 x0 x1 (u2 ||| (((zi 1)) <<< (u3 &&& 31))) u3 else jX10_blockedOf_35_L4 c3.1 x0 x1 u2 u3))
def sX10_blockedOf_4 (x0 : Nat) (x1 : Int32) (z : (zS × Int32 × Int32)) : Option ((zS × Int32 × Int32) ⊕ (zS × Int32)) := sX10_blockedOf_4b x0 x1 z.1 z.2.1 z.2.2
def fX10_blockedOf (σ : zS) (x0 : Nat) (x1 : Int32) : Option (zS × Int32) :=
  (zloop (sX10_blockedOf_4 x0 x1) zfuel (σ, (zi 0), (zi 0))).bind fun o7 => some (o7.1, o7.2)
def jX10_blockedOfSink_37_L4 (σ : zS) (x0 : Nat) (x1 : Int32) (x2 : Int32) (x3 : Int32)  : Option ((zS × Int32 × Int32) ⊕ (zS × Int32)) :=
  some (.inl (σ, x2, x3 + (zi 1)))
def sX10_blockedOfSink_4b (x0 : Nat) (x1 : Int32) (σ : zS) (u2 : Int32) (u3 : Int32) : Option ((zS × Int32 × Int32) ⊕ (zS × Int32)) :=
  (zgR 9 6 σ x0).bind fun v1 => (zaI σ v1 ((zi 1))).bind fun v2 => (if v2 ≤ u3 then some (.inr (σ, u2)) else (zgR 9 6 σ x0).bind fun v3 => (fX10_channelOut σ u3 x1).bind fun c4 => (zaI c4.1 v3 (((zi 59)) + c4.2)).bind fun v5 => (if v5 = ((zi 1)) then jX10_blockedOfSink_37_L4 c4.1 x0 x1 (u2 ||| (((zi 1)) <<< (u3 &&& 31))) u3 else jX10_blockedOfSink_37_L4 c4.1 x0 x1 u2 u3))
def sX10_blockedOfSink_4 (x0 : Nat) (x1 : Int32) (z : (zS × Int32 × Int32)) : Option ((zS × Int32 × Int32) ⊕ (zS × Int32)) := sX10_blockedOfSink_4b x0 x1 z.1 z.2.1 z.2.2
def fX10_blockedOfSink (σ : zS) (x0 : Nat) (x1 : Int32) : Option (zS × Int32) :=
  (zloop (sX10_blockedOfSink_4 x0 x1) zfuel (σ, (zi 0), (zi 0))).bind fun o8 => some (o8.1, o8.2)
def sX10_recordsTo_4b (x0 : Nat) (x1 : Int32) (σ : zS) (u2 : Int32) (u3 : Int32) : Option ((zS × Int32 × Int32) ⊕ (zS × Int32)) :=
  (zgI 9 1 σ x0).bind fun v1 => (if v1 ≤ u3 then some (.inr (σ, u2)) else (fX10_toInstance σ u3 x1).bind fun c2 => (zck 9 c2.1 x0 (fX10_things c2.1 x0 c2.2)).bind fun c3 => some (.inl (c3.1, u2 + c3.2, u3 + (zi 1))))
def sX10_recordsTo_4 (x0 : Nat) (x1 : Int32) (z : (zS × Int32 × Int32)) : Option ((zS × Int32 × Int32) ⊕ (zS × Int32)) := sX10_recordsTo_4b x0 x1 z.1 z.2.1 z.2.2
def fX10_recordsTo (σ : zS) (x0 : Nat) (x1 : Int32) : Option (zS × Int32) :=
  (zloop (sX10_recordsTo_4 x0 x1) zfuel (σ, (zi 0), (zi 0))).bind fun o5 => some (o5.1, o5.2)
def sX10_resultsFrom_4b (x0 : Nat) (x1 : Int32) (σ : zS) (u2 : Int32) (u3 : Int32) : Option ((zS × Int32 × Int32) ⊕ (zS × Int32)) :=
  (zgI 9 2 σ x0).bind fun v1 => (if v1 ≤ u3 then some (.inr (σ, u2)) else (fX10_toSink σ x1 u3).bind fun c2 => (zck 9 c2.1 x0 (fX10_things c2.1 x0 c2.2)).bind fun c3 => some (.inl (c3.1, u2 + c3.2, u3 + (zi 1))))
def sX10_resultsFrom_4 (x0 : Nat) (x1 : Int32) (z : (zS × Int32 × Int32)) : Option ((zS × Int32 × Int32) ⊕ (zS × Int32)) := sX10_resultsFrom_4b x0 x1 z.1 z.2.1 z.2.2
def fX10_resultsFrom (σ : zS) (x0 : Nat) (x1 : Int32) : Option (zS × Int32) :=
  (zloop (sX10_resultsFrom_4 x0 x1) zfuel (σ, (zi 0), (zi 0))).bind fun o5 => some (o5.1, o5.2)
def jX10_instance_26 (σ : zS) (x0 : Nat) (x1 : Int32) (x2 : Int32) (y0 : Int32) (y1 : Nat) : Option (zS × Int32) :=
  (zck 9 σ y1 (fX10_is σ y1 y0)).bind fun c2 => (if c2.2 = ((zi 0)) then some (c2.1, (zi 0)) else (if x2 = (zi 0) then (zck 9 c2.1 x0 (fX10_groupsOf c2.1 x0 x1)).bind fun c4 => some (c4.1, c4.2) else (if x2 = (zi 1) then (zgR 9 6 c2.1 x0).bind fun v6 => (zaI c2.1 v6 (((zi 33)) + x1)).bind fun v7 => some (c2.1, v7) else (if x2 = (zi 2) then (zck 9 c2.1 x0 (fX10_blockedOf c2.1 x0 x1)).bind fun c9 => some (c9.1, c9.2) else (if x2 = (zi 3) then (zck 9 c2.1 x0 (fX10_recordsTo c2.1 x0 x1)).bind fun c11 => some (c11.1, c11.2) else (zck 9 c2.1 x0 (fX10_resultsFrom c2.1 x0 x1)).bind fun c12 => some (c12.1, c12.2))))))
def jX10_instance_25 (σ : zS) (x0 : Nat) (x1 : Int32) (x2 : Int32) (y0 : Nat) : Option (zS × Int32) :=
  jX10_instance_26 σ x0 x1 x2 ((zi 0)) y0
def fX10_instance (σ : zS) (x0 : Nat) (x1 : Int32) (x2 : Int32) : Option (zS × Int32) :=
  (zck 9 σ x0 (fX10_isInstance σ x0 x1)).bind fun c1 => (if c1.2 = ((zi 0)) then jX10_instance_25 c1.1 x0 x1 x2 x0 else (fX10_isIn c1.1 x2.toInt64 0 4).bind fun c14 => (if c14.2 = ((zi 0)) then jX10_instance_25 c14.1 x0 x1 x2 x0 else jX10_instance_26 c14.1 x0 x1 x2 ((zi 1)) x0))
def jX10_sink_26 (σ : zS) (x0 : Nat) (x1 : Int32) (x2 : Int32) (y0 : Int32) (y1 : Nat) : Option (zS × Int32) :=
  (zck 9 σ y1 (fX10_is σ y1 y0)).bind fun c2 => (if c2.2 = ((zi 0)) then some (c2.1, (zi 0)) else (if x2 = (zi 0) then (zgR 9 6 c2.1 x0).bind fun v4 => (fX10_results c2.1 ((zi 9792)) x1).bind fun c5 => (zaI c5.1 v4 c5.2).bind fun v6 => some (c5.1, v6) else (if x2 = (zi 1) then (zgR 9 6 c2.1 x0).bind fun v8 => (fX10_results c2.1 ((zi 11394)) x1).bind fun c9 => (zaI c9.1 v8 c9.2).bind fun v10 => some (c9.1, v10) else (if x2 = (zi 2) then (zgR 9 6 c2.1 x0).bind fun v12 => (fX10_results c2.1 ((zi 12996)) x1).bind fun c13 => (zaI c13.1 v12 c13.2).bind fun v14 => some (c13.1, v14) else (zck 9 c2.1 x0 (fX10_blockedOfSink c2.1 x0 x1)).bind fun c15 => some (c15.1, c15.2)))))
def jX10_sink_25 (σ : zS) (x0 : Nat) (x1 : Int32) (x2 : Int32) (y0 : Nat) : Option (zS × Int32) :=
  jX10_sink_26 σ x0 x1 x2 ((zi 0)) y0
def fX10_sink (σ : zS) (x0 : Nat) (x1 : Int32) (x2 : Int32) : Option (zS × Int32) :=
  (zck 9 σ x0 (fX10_isSink σ x0 x1)).bind fun c1 => (if c1.2 = ((zi 0)) then jX10_sink_25 c1.1 x0 x1 x2 x0 else (fX10_isIn c1.1 x2.toInt64 0 3).bind fun c17 => (if c17.2 = ((zi 0)) then jX10_sink_25 c17.1 x0 x1 x2 x0 else jX10_sink_26 c17.1 x0 x1 x2 ((zi 1)) x0))
def jX10_shown_24 (σ : zS) (x0 : Nat) (x1 : Int32) (x2 : Int32) (x3 : Int32) (y0 : Int32) (y1 : Nat) : Option (zS × Int32) :=
  (zck 9 σ y1 (fX10_is σ y1 y0)).bind fun c2 => (if c2.2 = ((zi 0)) then some (c2.1, (zi 0)) else (zgR 9 6 c2.1 x0).bind fun v3 => (fX10_results c2.1 ((zi 12996)) x1).bind fun c4 => (zaI c4.1 v3 c4.2).bind fun v5 => (fX10_isIn c4.1 x2.toInt64 0 ((v5 - ((zi 1)) : Int32).toInt64)).bind fun c6 => (zck 9 c6.1 x0 (fX10_may c6.1 x0 c6.2 ((zi 2)))).bind fun c7 => (if c7.2 = ((zi 0)) then some (c7.1, (zi 0)) else (fX10_results c7.1 ((zi 12996)) x1).bind fun c8 => (zck 9 c8.1 x0 (fX10_at c8.1 x0 c8.2 x2)).bind fun c9 => (if x3 = ((zi 0)) then some (c9.1, c9.2 / ((zi 20000))) else some (c9.1, c9.2 - c9.2 / ((zi 20000)) * ((zi 20000))))))
def jX10_shown_23 (σ : zS) (x0 : Nat) (x1 : Int32) (x2 : Int32) (x3 : Int32) (y0 : Nat) : Option (zS × Int32) :=
  jX10_shown_24 σ x0 x1 x2 x3 ((zi 0)) y0
def fX10_shown (σ : zS) (x0 : Nat) (x1 : Int32) (x2 : Int32) (x3 : Int32) : Option (zS × Int32) :=
  (zck 9 σ x0 (fX10_isSink σ x0 x1)).bind fun c1 => (if c1.2 = ((zi 0)) then jX10_shown_23 c1.1 x0 x1 x2 x3 x0 else (fX10_isIn c1.1 x3.toInt64 0 1).bind fun c13 => (if c13.2 = ((zi 0)) then jX10_shown_23 c13.1 x0 x1 x2 x3 x0 else jX10_shown_24 c13.1 x0 x1 x2 x3 ((zi 1)) x0))
def jX10_inChannel_22 (σ : zS) (x0 : Nat) (x1 : Int32) (x2 : Int32) (x3 : Int32) (y0 : Int32) (y1 : Nat) : Option (zS × Int32) :=
  (zck 9 σ y1 (fX10_is σ y1 y0)).bind fun c2 => (if c2.2 = ((zi 0)) then some (c2.1, (zi 0)) else (if x3 = ((zi 0)) then (fX10_toInstance c2.1 x1 x2).bind fun c3 => (zck 9 c3.1 x0 (fX10_things c3.1 x0 c3.2)).bind fun c4 => some (c4.1, c4.2) else (fX10_toInstance c2.1 x1 x2).bind fun c5 => (zck 9 c5.1 x0 (fX10_barriers c5.1 x0 c5.2)).bind fun c6 => some (c6.1, c6.2)))
def jX10_inChannel_21 (σ : zS) (x0 : Nat) (x1 : Int32) (x2 : Int32) (x3 : Int32) (y0 : Nat) : Option (zS × Int32) :=
  jX10_inChannel_22 σ x0 x1 x2 x3 ((zi 0)) y0
def fX10_inChannel (σ : zS) (x0 : Nat) (x1 : Int32) (x2 : Int32) (x3 : Int32) : Option (zS × Int32) :=
  (zck 9 σ x0 (fX10_isSource σ x0 x1)).bind fun c1 => (if c1.2 = ((zi 0)) then jX10_inChannel_21 c1.1 x0 x1 x2 x3 x0 else (zck 9 c1.1 x0 (fX10_isInstance c1.1 x0 x2)).bind fun c9 => (if c9.2 = ((zi 0)) then jX10_inChannel_21 c9.1 x0 x1 x2 x3 x0 else jX10_inChannel_22 c9.1 x0 x1 x2 x3 ((zi 1)) x0))
def jX10_outChannel_22 (σ : zS) (x0 : Nat) (x1 : Int32) (x2 : Int32) (x3 : Int32) (y0 : Int32) (y1 : Nat) : Option (zS × Int32) :=
  (zck 9 σ y1 (fX10_is σ y1 y0)).bind fun c2 => (if c2.2 = ((zi 0)) then some (c2.1, (zi 0)) else (if x3 = ((zi 0)) then (fX10_toSink c2.1 x1 x2).bind fun c3 => (zck 9 c3.1 x0 (fX10_things c3.1 x0 c3.2)).bind fun c4 => some (c4.1, c4.2) else (fX10_toSink c2.1 x1 x2).bind fun c5 => (zck 9 c5.1 x0 (fX10_barriers c5.1 x0 c5.2)).bind fun c6 => some (c6.1, c6.2)))
def jX10_outChannel_21 (σ : zS) (x0 : Nat) (x1 : Int32) (x2 : Int32) (x3 : Int32) (y0 : Nat) : Option (zS × Int32) :=
  jX10_outChannel_22 σ x0 x1 x2 x3 ((zi 0)) y0
def fX10_outChannel (σ : zS) (x0 : Nat) (x1 : Int32) (x2 : Int32) (x3 : Int32) : Option (zS × Int32) :=
  (zck 9 σ x0 (fX10_isInstance σ x0 x1)).bind fun c1 => (if c1.2 = ((zi 0)) then jX10_outChannel_21 c1.1 x0 x1 x2 x3 x0 else (zck 9 c1.1 x0 (fX10_isSink c1.1 x0 x2)).bind fun c9 => (if c9.2 = ((zi 0)) then jX10_outChannel_21 c9.1 x0 x1 x2 x3 x0 else jX10_outChannel_22 c9.1 x0 x1 x2 x3 ((zi 1)) x0))
def sX10_sumOf_5b (x0 : Nat) (x1 : Int32) (x2 : Int32) (σ : zS) (u3 : Int32) (u4 : Int32) : Option ((zS × Int32 × Int32) ⊕ (zS × Int32)) :=
  (if (x1 + x2) ≤ u4 then some (.inr (σ, u3)) else (zgR 9 6 σ x0).bind fun v1 => (zaI σ v1 u4).bind fun v2 => some (.inl (σ, u3 + v2, u4 + (zi 1))))
def sX10_sumOf_5 (x0 : Nat) (x1 : Int32) (x2 : Int32) (z : (zS × Int32 × Int32)) : Option ((zS × Int32 × Int32) ⊕ (zS × Int32)) := sX10_sumOf_5b x0 x1 x2 z.1 z.2.1 z.2.2
def fX10_sumOf (σ : zS) (x0 : Nat) (x1 : Int32) (x2 : Int32) : Option (zS × Int32) :=
  (zloop (sX10_sumOf_5 x0 x1 x2) zfuel (σ, (zi 0), x1)).bind fun o4 => some (o4.1, o4.2)
def fX10_progress (σ : zS) (x0 : Nat) (x1 : Int32) : Option (zS × Int32) :=
  (fX10_isIn σ x1.toInt64 0 6).bind fun c1 => (zck 9 c1.1 x0 (fX10_is c1.1 x0 c1.2)).bind fun c2 => (if c2.2 = ((zi 0)) then some (c2.1, (zi 0)) else (zgR 9 6 c2.1 x0).bind fun v3 => (zaI c2.1 v3 ((zi 67))).bind fun v4 => (if v4 = ((zi 0)) then some (c2.1, (zi (-1))) else (if x1 = (zi 0) then (zgR 9 6 c2.1 x0).bind fun v6 => (zaI c2.1 v6 ((zi 5))).bind fun v7 => some (c2.1, v7) else (if x1 = (zi 1) then (zgR 9 6 c2.1 x0).bind fun v9 => (zaI c2.1 v9 ((zi 68))).bind fun v10 => some (c2.1, v10) else (if x1 = (zi 2) then (zgR 9 6 c2.1 x0).bind fun v12 => (zaI c2.1 v12 ((zi 69))).bind fun v13 => some (c2.1, v13) else (if x1 = (zi 3) then (zck 9 c2.1 x0 (fX10_sumOf c2.1 x0 ((zi 70)) ((zi 4)))).bind fun c15 => some (c15.1, c15.2) else (if x1 = (zi 4) then (zck 9 c2.1 x0 (fX10_sumOf c2.1 x0 ((zi 74)) ((zi 16)))).bind fun c17 => some (c17.1, c17.2) else (if x1 = (zi 5) then (zck 9 c2.1 x0 (fX10_sumOf c2.1 x0 ((zi 90)) ((zi 8)))).bind fun c19 => some (c19.1, c19.2) else (zck 9 c2.1 x0 (fX10_allIn c2.1 x0 ((zi 14598)) ((zi 17830)))).bind fun c20 => some (c20.1, c20.2)))))))))
def fX10_completed (σ : zS) (x0 : Nat) (x1 : Int32) : Option (zS × Int32) :=
  (fX10_isIn σ x1.toInt64 0 5).bind fun c1 => (zck 9 c1.1 x0 (fX10_is c1.1 x0 c1.2)).bind fun c2 => (if c2.2 = ((zi 0)) then some (c2.1, (zi 0)) else (zgR 9 6 c2.1 x0).bind fun v3 => (zaI c2.1 v3 ((zi 118))).bind fun v4 => (if v4 = ((zi 0)) then some (c2.1, (zi (-1))) else (if x1 = (zi 0) then (zgR 9 6 c2.1 x0).bind fun v6 => (zaI c2.1 v6 ((zi 119))).bind fun v7 => some (c2.1, v7) else (if x1 = (zi 1) then (zgR 9 6 c2.1 x0).bind fun v9 => (zaI c2.1 v9 ((zi 120))).bind fun v10 => some (c2.1, v10) else (if x1 = (zi 2) then (zgR 9 6 c2.1 x0).bind fun v12 => (zaI c2.1 v12 ((zi 121))).bind fun v13 => some (c2.1, v13) else (if x1 = (zi 3) then (zgR 9 6 c2.1 x0).bind fun v15 => (zaI c2.1 v15 ((zi 122))).bind fun v16 => some (c2.1, v16) else (if x1 = (zi 4) then (zck 9 c2.1 x0 (fX10_allIn c2.1 x0 ((zi 24246)) ((zi 27478)))).bind fun c18 => some (c18.1, c18.2) else (zgR 9 6 c2.1 x0).bind fun v19 => (zaI c2.1 v19 ((zi 123))).bind fun v20 => some (c2.1, v20))))))))
def fX10_notedPosition (σ : zS) (x0 : Nat) (x1 : Int32) : Option (zS × Int32) :=
  (zck 9 σ x0 (fX10_isSource σ x0 x1)).bind fun c1 => (zck 9 c1.1 x0 (fX10_is c1.1 x0 c1.2)).bind fun c2 => (if c2.2 = ((zi 0)) then some (c2.1, (zi 0)) else (zgR 9 6 c2.1 x0).bind fun v3 => (zaI c2.1 v3 (((zi 124)) + x1)).bind fun v4 => some (c2.1, v4))
def fX10_notedSum (σ : zS) (x0 : Nat) (x1 : Int32) : Option (zS × Int32) :=
  (fX10_isKey σ x1).bind fun c1 => (zck 9 c1.1 x0 (fX10_is c1.1 x0 c1.2)).bind fun c2 => (if c2.2 = ((zi 0)) then some (c2.1, (zi 0)) else (zgR 9 6 c2.1 x0).bind fun v3 => (zaI c2.1 v3 (((zi 128)) + x1)).bind fun v4 => some (c2.1, v4))
def jX10_shownOf_60_L30 (σ : zS) (x0 : Nat) (x1 : Int32) (x2 : Int32) (x3 : Int32) (x4 : Int32)  : Option ((zS × Int32 × Int32) ⊕ (zS × Int32)) :=
  some (.inl (σ, x3, x4 + (zi 1)))
def sX10_shownOf_30b (x0 : Nat) (x1 : Int32) (x2 : Int32) (σ : zS) (u3 : Int32) (u4 : Int32) : Option ((zS × Int32 × Int32) ⊕ (zS × Int32)) :=
  (zgR 9 6 σ x0).bind fun v5 => (zaI σ v5 x2).bind fun v6 => (if v6 ≤ u4 then some (.inr (σ, u3)) else (zck 9 σ x0 (fX10_at σ x0 x2 u4)).bind fun c7 => (if (c7.2 / ((zi 20000))) = x1 then jX10_shownOf_60_L30 c7.1 x0 x1 x2 (u3 + ((zi 1))) u4 else jX10_shownOf_60_L30 c7.1 x0 x1 x2 u3 u4))
def sX10_shownOf_30 (x0 : Nat) (x1 : Int32) (x2 : Int32) (z : (zS × Int32 × Int32)) : Option ((zS × Int32 × Int32) ⊕ (zS × Int32)) := sX10_shownOf_30b x0 x1 x2 z.1 z.2.1 z.2.2
def fX10_shownOf (σ : zS) (x0 : Nat) (x1 : Int32) : Option (zS × Int32) :=
  (fX10_isKey σ x1).bind fun c1 => (zck 9 c1.1 x0 (fX10_is c1.1 x0 c1.2)).bind fun c2 => (if c2.2 = ((zi 0)) then some (c2.1, (zi 0)) else (zck 9 c2.1 x0 (fX10_sinkOf c2.1 x0 x1)).bind fun c3 => (fX10_results c3.1 ((zi 12996)) c3.2).bind fun c4 => (zloop (sX10_shownOf_30 x0 x1 c4.2) zfuel (c4.1, (zi 0), (zi 0))).bind fun o10 => some (o10.1, o10.2))
def jX10_expected_97_L49 (σ : zS) (x0 : Nat) (x1 : Int32) (x3 : Int32) (x4 : Int32) (x5 : Int32) (x6 : Int32)  : Option ((zS × Int32 × Int32 × Int32) ⊕ (zS × Int32 × Int32)) :=
  some (.inl (σ, x4, x5, x6 + (zi 1)))
def sX10_expected_49b (x0 : Nat) (x1 : Int32) (x3 : Int32) (σ : zS) (u4 : Int32) (u5 : Int32) (u6 : Int32) : Option ((zS × Int32 × Int32 × Int32) ⊕ (zS × Int32 × Int32)) :=
  (zgR 9 3 σ x0).bind fun v4 => (zaI σ v4 x3).bind fun v5 => (if v5 ≤ u6 then some (.inr (σ, u4, u5)) else (if u4 ≤ ((zi 0)) then some (.inr (σ, u4, u5)) else (zck 9 σ x0 (fX10_keyOf σ x0 x3 u6)).bind fun c6 => (if c6.2 = x1 then (zck 9 c6.1 x0 (fX10_valueOf c6.1 x0 x3 u6)).bind fun c7 => jX10_expected_97_L49 c7.1 x0 x1 x3 (u4 - ((zi 1))) (u5 + c7.2) u6 else jX10_expected_97_L49 c6.1 x0 x1 x3 u4 u5 u6)))
def sX10_expected_49 (x0 : Nat) (x1 : Int32) (x3 : Int32) (z : (zS × Int32 × Int32 × Int32)) : Option ((zS × Int32 × Int32 × Int32) ⊕ (zS × Int32 × Int32)) := sX10_expected_49b x0 x1 x3 z.1 z.2.1 z.2.2.1 z.2.2.2
def jX10_expected_103 (σ : zS) (x4 : Int32) (x5 : Int32)  : Option (zS × Int32) :=
  (if x4 ≤ ((zi 0)) then some (σ, x5) else some (σ, (zi (-1))))
def jX10_expected_18 (σ : zS) (x0 : Nat) (x1 : Int32) (x2 : Int32) (y0 : Int32) (y1 : Nat) : Option (zS × Int32) :=
  (zck 9 σ y1 (fX10_is σ y1 y0)).bind fun c2 => (if c2.2 = ((zi 0)) then some (c2.1, (zi 0)) else (zck 9 c2.1 x0 (fX10_isSource c2.1 x0 (x1 - x1 / ((zi 4)) * ((zi 4))))).bind fun c3 => (if c3.2 = ((zi 0)) then some (c3.1, (zi (-1))) else (zloop (sX10_expected_49 x0 x1 (x1 - x1 / ((zi 4)) * ((zi 4)))) zfuel (c3.1, x2, (zi 0), (zi 0))).bind fun o11 => jX10_expected_103 o11.1 o11.2.1 o11.2.2))
def jX10_expected_17 (σ : zS) (x0 : Nat) (x1 : Int32) (x2 : Int32) (y0 : Nat) : Option (zS × Int32) :=
  jX10_expected_18 σ x0 x1 x2 ((zi 0)) y0
def fX10_expected (σ : zS) (x0 : Nat) (x1 : Int32) (x2 : Int32) : Option (zS × Int32) :=
  (fX10_isKey σ x1).bind fun c1 => (if c1.2 = ((zi 0)) then jX10_expected_17 c1.1 x0 x1 x2 x0 else (if x2 < ((zi 1)) then jX10_expected_17 c1.1 x0 x1 x2 x0 else jX10_expected_18 c1.1 x0 x1 x2 ((zi 1)) x0))
def fX10_atRisk (σ : zS) (x0 : Nat) : Option (zS × Int32) :=
  (zpI 9 0 σ x0 ((zi 0))).bind fun σ1 => (zck 9 σ1 x0 (fX10_risk σ1 x0 )).bind fun c2 => some (c2.1, c2.2)
def jX10_fullest_65_L22 (σ : zS) (x0 : Nat) (x1 : Int32) (x2 : Int32) (x3 : Int32) (x4 : Int32)  : Option ((zS × Int32 × Int32 × Int32) ⊕ (zS × Int32 × Int32)) :=
  some (.inl (σ, x1, x2, x4 + (zi 1)))
def sX10_fullest_22b (x0 : Nat) (x3 : Int32) (σ : zS) (u1 : Int32) (u2 : Int32) (u4 : Int32) : Option ((zS × Int32 × Int32 × Int32) ⊕ (zS × Int32 × Int32)) :=
  (zgR 9 6 σ x0).bind fun v3 => (zaI σ v3 ((zi 1))).bind fun v4 => (if v4 ≤ u4 then some (.inr (σ, u1, u2)) else (fX10_toInstance σ x3 u4).bind fun c5 => (zck 9 c5.1 x0 (fX10_things c5.1 x0 c5.2)).bind fun c6 => (if u2 < c6.2 then jX10_fullest_65_L22 c6.1 x0 ((((zi 10)) * x3) + u4) c6.2 x3 u4 else jX10_fullest_65_L22 c6.1 x0 u1 u2 x3 u4))
def sX10_fullest_22 (x0 : Nat) (x3 : Int32) (z : (zS × Int32 × Int32 × Int32)) : Option ((zS × Int32 × Int32 × Int32) ⊕ (zS × Int32 × Int32)) := sX10_fullest_22b x0 x3 z.1 z.2.1 z.2.2.1 z.2.2.2
def sX10_fullest_11b (x0 : Nat) (σ : zS) (u1 : Int32) (u2 : Int32) (u3 : Int32) : Option ((zS × Int32 × Int32 × Int32) ⊕ (zS × Int32)) :=
  (zgI 9 1 σ x0).bind fun v2 => (if v2 ≤ u3 then some (.inr (σ, u1)) else (zloop (sX10_fullest_22 x0 u3) zfuel (σ, u1, u2, (zi 0))).bind fun o9 => some (.inl (o9.1, o9.2.1, o9.2.2, u3 + (zi 1))))
def sX10_fullest_11 (x0 : Nat) (z : (zS × Int32 × Int32 × Int32)) : Option ((zS × Int32 × Int32 × Int32) ⊕ (zS × Int32)) := sX10_fullest_11b x0 z.1 z.2.1 z.2.2.1 z.2.2.2
def fX10_fullest (σ : zS) (x0 : Nat) : Option (zS × Int32) :=
  (zpI 9 0 σ x0 ((zi 0))).bind fun σ1 => (zloop (sX10_fullest_11 x0) zfuel (σ1, (zi (-1)), (zi 0), (zi 0))).bind fun o11 => some (o11.1, o11.2)
def jX10_feed_76_L23 (σ : zS) (x0 : Nat) (x1 : Int32) (x2 : Int32) (x3 : Int32) (x4 : Int32) (x5 : Int32) (x6 : Int32) (y0 : Int32) : Option ((zS × Int32) ⊕ zS) :=
  (zgR 9 14 σ x0).bind fun v3 => (zgI 9 15 σ x0).bind fun v4 => (zsB σ v3 v4 ((y0 >>> ((((zi 24)) - (((zi 8)) * (x6 - x6 / ((zi 4)) * ((zi 4))))) &&& 31) : Int32).toInt8.toInt32)).bind fun σ5 => (zgI 9 15 σ5 x0).bind fun v6 => (zpI 9 15 σ5 x0 (v6 + ((zi 1)))).bind fun σ7 => some (.inl (σ7, x6 + (zi 1)))
def sX10_feed_23b (x0 : Nat) (x1 : Int32) (x2 : Int32) (x3 : Int32) (x4 : Int32) (x5 : Int32) (σ : zS) (u6 : Int32) : Option ((zS × Int32) ⊕ zS) :=
  (if ((zi 20)) ≤ u6 then some (.inr σ) else (if ((zi 4)) ≤ u6 then (if ((zi 8)) ≤ u6 then (if ((zi 12)) ≤ u6 then (if ((zi 16)) ≤ u6 then jX10_feed_76_L23 σ x0 x1 x2 x3 x4 x5 u6 x5 else jX10_feed_76_L23 σ x0 x1 x2 x3 x4 x5 u6 x4) else jX10_feed_76_L23 σ x0 x1 x2 x3 x4 x5 u6 x3) else jX10_feed_76_L23 σ x0 x1 x2 x3 x4 x5 u6 x2) else jX10_feed_76_L23 σ x0 x1 x2 x3 x4 x5 u6 x1))
def sX10_feed_23 (x0 : Nat) (x1 : Int32) (x2 : Int32) (x3 : Int32) (x4 : Int32) (x5 : Int32) (z : (zS × Int32)) : Option ((zS × Int32) ⊕ zS) := sX10_feed_23b x0 x1 x2 x3 x4 x5 z.1 z.2
def fX10_feed (σ : zS) (x0 : Nat) (x1 : Int32) (x2 : Int32) (x3 : Int32) (x4 : Int32) (x5 : Int32) : Option (zS × Int32) :=
  (zpI 9 0 σ x0 ((zi 0))).bind fun σ1 => (zgI 9 15 σ1 x0).bind fun v2 => (if (v2 + ((zi 20))) ≤ ((zi 300)) then (zloop (sX10_feed_23 x0 x1 x2 x3 x4 x5) zfuel (σ1, (zi 0))).bind fun o13 => (zgI 9 15 o13 x0).bind fun v14 => some (o13, v14) else some (σ1, (zi (-1))))
def fX10_truncate (σ : zS) (x0 : Nat) (x1 : Int32) : Option (zS × Int32) :=
  (zpI 9 0 σ x0 ((zi 0))).bind fun σ1 => (zgI 9 15 σ1 x0).bind fun v2 => (fX10_isIn σ1 x1.toInt64 0 v2.toInt64).bind fun c3 => (if c3.2 = ((zi 0)) then zrZ c3.1 ((zi 0)) else (zpI 9 15 c3.1 x0 x1).bind fun σ4 => zrZ σ4 ((zi 1)))
def fX10_here (σ : zS) (x0 : Nat) (x1 : Int32) : Option (zS × Int32) :=
  (zgI 9 16 σ x0).bind fun v1 => (if v1 ≤ x1 then some (σ, (zi (-1))) else (zgR 9 14 σ x0).bind fun v2 => (zaB σ v2 x1).bind fun v3 => some (σ, v3 &&& ((zi 255))))
def sX10_wordHere_16b (x0 : Nat) (x1 : Int32) (x2 : Int32) (σ : zS) (u3 : Int32) : Option ((zS × Int32) ⊕ (zS × Int32)) :=
  (zsck 9 (fJ0_charAt_5068e σ 9 (x2 + u3))).bind fun c2 => (if c2.2 = ((zi 32)) then some (.inr (c2.1, u3)) else (zgI 9 18 c2.1 x0).bind fun v3 => (zgI 9 17 c2.1 x0).bind fun v4 => (if v4 ≤ (v3 + u3) then some (.inr (c2.1, u3)) else (zgR 9 14 c2.1 x0).bind fun v5 => (zgI 9 18 c2.1 x0).bind fun v6 => (zaB c2.1 v5 (v6 + u3)).bind fun v7 => (zsck 9 (fJ0_charAt_5068e c2.1 9 (x2 + u3))).bind fun c8 => (if v7 = c8.2 then some (.inl (c8.1, u3 + ((zi 1)))) else some (.inr (c8.1, u3)))))
def sX10_wordHere_16 (x0 : Nat) (x1 : Int32) (x2 : Int32) (z : (zS × Int32)) : Option ((zS × Int32) ⊕ (zS × Int32)) := sX10_wordHere_16b x0 x1 x2 z.1 z.2
def sX10_wordHere_102b (x0 : Nat) (x1 : Int32) (σ : zS) (u2 : Int32) : Option ((zS × Int32) ⊕ (zS × Int32)) :=
  (zsck 9 (fJ0_charAt_5068e σ 9 u2)).bind fun c14 => (if c14.2 = ((zi 32)) then some (.inr (c14.1, u2)) else some (.inl (c14.1, u2 + ((zi 1)))))
def sX10_wordHere_102 (x0 : Nat) (x1 : Int32) (z : (zS × Int32)) : Option ((zS × Int32) ⊕ (zS × Int32)) := sX10_wordHere_102b x0 x1 z.1 z.2
def jX10_wordHere_102_L4 (σ : zS) (x0 : Nat) (x1 : Int32) (x2 : Int32)  : Option ((zS × Int32 × Int32) ⊕ ((zS × Int32) ⊕ zS)) :=
  (zloop (sX10_wordHere_102 x0 x1) zfuel (σ, x2)).bind fun o16 => some (.inl (o16.1, x1 + ((zi 1)), o16.2 + ((zi 1))))
def jX10_wordHere_73_L4 (σ : zS) (x0 : Nat) (x1 : Int32) (x2 : Int32) (x3 : Int32)  : Option ((zS × Int32 × Int32) ⊕ ((zS × Int32) ⊕ zS)) :=
  (zsck 9 (fJ0_charAt_5068e σ 9 (x2 + x3))).bind fun c13 => (if c13.2 = ((zi 32)) then (zgI 9 18 c13.1 x0).bind fun v17 => (zgI 9 17 c13.1 x0).bind fun v18 => (if (v17 + x3) = v18 then some (.inr (.inl (c13.1, x1))) else jX10_wordHere_102_L4 c13.1 x0 x1 x2) else jX10_wordHere_102_L4 c13.1 x0 x1 x2)
def sX10_wordHere_4b (x0 : Nat) (σ : zS) (u1 : Int32) (u2 : Int32) : Option ((zS × Int32 × Int32) ⊕ ((zS × Int32) ⊕ zS)) :=
  (zsck 9 (fJ0_length_8abf5 σ 9 )).bind fun c1 => (if c1.2 ≤ u2 then some (.inr (.inr c1.1)) else (zloop (sX10_wordHere_16 x0 u1 u2) zfuel (c1.1, (zi 0))).bind fun o12 => jX10_wordHere_73_L4 o12.1 x0 u1 u2 o12.2)
def sX10_wordHere_4 (x0 : Nat) (z : (zS × Int32 × Int32)) : Option ((zS × Int32 × Int32) ⊕ ((zS × Int32) ⊕ zS)) := sX10_wordHere_4b x0 z.1 z.2.1 z.2.2
def fX10_wordHere (σ : zS) (x0 : Nat) : Option (zS × Int32) :=
  (zloop (sX10_wordHere_4 x0) zfuel (σ, (zi 0), (zi 0))).bind fun o22 => (match o22 with | (.inl z23) => some (z23.1, z23.2) | (.inr z24) => some (z24, (zi (-1))))
def jX10_next_26_L0 (σ : zS) (x0 : Nat)  : Option (zS ⊕ zS) :=
  (zgI 9 17 σ x0).bind fun v3 => (zpI 9 17 σ x0 (v3 + ((zi 1)))).bind fun σ4 => some (.inl σ4)
def sX10_next_0b (x0 : Nat) (σ : zS)  : Option (zS ⊕ zS) :=
  (zgI 9 17 σ x0).bind fun v1 => (zck 9 σ x0 (fX10_here σ x0 v1)).bind fun c2 => (if c2.2 = ((zi 32)) then jX10_next_26_L0 c2.1 x0 else (zgI 9 17 c2.1 x0).bind fun v5 => (zck 9 c2.1 x0 (fX10_here c2.1 x0 v5)).bind fun c6 => (if c6.2 = ((zi 10)) then jX10_next_26_L0 c6.1 x0 else some (.inr c6.1)))
def sX10_next_0 (x0 : Nat) (z : zS) : Option (zS ⊕ zS) := sX10_next_0b x0 z
def jX10_next_209_L152 (σ : zS) (x0 : Nat)  : Option (zS ⊕ zS) :=
  (zgI 9 17 σ x0).bind fun v27 => (zpI 9 17 σ x0 (v27 + ((zi 1)))).bind fun σ28 => some (.inl σ28)
def sX10_next_152b (x0 : Nat) (σ : zS)  : Option (zS ⊕ zS) :=
  (zgI 9 17 σ x0).bind fun v22 => (zck 9 σ x0 (fX10_here σ x0 v22)).bind fun c23 => (fX10_isIn c23.1 c23.2.toInt64 48 57).bind fun c24 => (if c24.2 = ((zi 0)) then some (.inr c24.1) else (zgI 9 17 c24.1 x0).bind fun v25 => (zgI 9 18 c24.1 x0).bind fun v26 => (if ((zi 3)) ≤ (v25 - v26) then jX10_next_209_L152 c24.1 x0 else (zgI 9 21 c24.1 x0).bind fun v29 => (zgI 9 17 c24.1 x0).bind fun v30 => (zck 9 c24.1 x0 (fX10_here c24.1 x0 v30)).bind fun c31 => (zpI 9 21 c31.1 x0 (((((zi 10)) * v29) + c31.2) - ((zi 48)))).bind fun σ32 => jX10_next_209_L152 σ32 x0))
def sX10_next_152 (x0 : Nat) (z : zS) : Option (zS ⊕ zS) := sX10_next_152b x0 z
def jX10_next_241 (σ : zS)  (y0 : Int32) (y1 : Nat) : Option zS :=
  (zpI 9 19 σ y1 y0).bind fun σ38 => some σ38
def sX10_next_83b (x0 : Nat) (σ : zS)  : Option (zS ⊕ zS) :=
  (zgI 9 17 σ x0).bind fun v41 => (zck 9 σ x0 (fX10_here σ x0 v41)).bind fun c42 => (fX10_isIn c42.1 c42.2.toInt64 97 122).bind fun c43 => (if c43.2 = ((zi 0)) then some (.inr c43.1) else (zgI 9 17 c43.1 x0).bind fun v44 => (zpI 9 17 c43.1 x0 (v44 + ((zi 1)))).bind fun σ45 => some (.inl σ45))
def sX10_next_83 (x0 : Nat) (z : zS) : Option (zS ⊕ zS) := sX10_next_83b x0 z
def fX10_next (σ : zS) (x0 : Nat) : Option zS :=
  (zloop (sX10_next_0 x0) zfuel σ).bind fun o9 => (zgI 9 17 o9 x0).bind fun v10 => (zpI 9 18 o9 x0 v10).bind fun σ11 => (zgI 9 17 σ11 x0).bind fun v12 => (zck 9 σ11 x0 (fX10_here σ11 x0 v12)).bind fun c13 => (if c13.2 = ((zi (-1))) then (zpI 9 19 c13.1 x0 ((zi 0))).bind fun σ52 => some σ52 else (fX10_isIn c13.1 c13.2.toInt64 97 122).bind fun c14 => (if c14.2 = ((zi 0)) then (fX10_isIn c14.1 c13.2.toInt64 48 57).bind fun c15 => (if c15.2 = ((zi 0)) then (zgI 9 17 c15.1 x0).bind fun v16 => (zpI 9 17 c15.1 x0 (v16 + ((zi 1)))).bind fun σ17 => (if c13.2 = ((zi 59)) then (zpI 9 19 σ17 x0 ((zi 3))).bind fun σ19 => some σ19 else (zpI 9 19 σ17 x0 ((zi 4))).bind fun σ18 => some σ18) else (zpI 9 21 c15.1 x0 ((zi 0))).bind fun σ21 => (zloop (sX10_next_152 x0) zfuel σ21).bind fun o35 => (zgI 9 17 o35 x0).bind fun v36 => (zgI 9 18 o35 x0).bind fun v37 => (if (v36 - v37) ≤ ((zi 3)) then jX10_next_241 o35  ((zi 2)) x0 else jX10_next_241 o35  ((zi 4)) x0)) else (zloop (sX10_next_83 x0) zfuel c14.1).bind fun o47 => (zpI 9 19 o47 x0 ((zi 1))).bind fun σ48 => (zck 9 σ48 x0 (fX10_wordHere σ48 x0 )).bind fun c49 => (zpI 9 20 c49.1 x0 c49.2).bind fun σ50 => some σ50))
def fX10_fine (σ : zS) (x0 : Nat) : Option (zS × Int32) :=
  (zgI 9 22 σ x0).bind fun v1 => (if v1 = ((zi 0)) then zrZ σ ((zi 1)) else zrZ σ ((zi 0)))
def fX10_needs (σ : zS) (x0 : Nat) (x1 : Int32) (x2 : Int32) : Option zS :=
  (zgI 9 22 σ x0).bind fun v1 => (if v1 = ((zi 0)) then (if x1 = ((zi 0)) then (zpI 9 22 σ x0 x2).bind fun σ2 => (zgI 9 18 σ2 x0).bind fun v3 => (zpI 9 23 σ2 x0 v3).bind fun σ4 => some σ4 else some σ) else some σ)
def fX10_goOn (σ : zS) (x0 : Nat) : Option zS :=
  (zck 9 σ x0 (fX10_fine σ x0 )).bind fun c1 => (if c1.2 = ((zi 0)) then some c1.1 else (zck 9 c1.1 x0 (fX10_next c1.1 x0 )).bind fun c2 => some c2)
def fX10_isWord (σ : zS) (x0 : Nat) (x1 : Int32) : Option (zS × Int32) :=
  (zck 9 σ x0 (fX10_fine σ x0 )).bind fun c1 => (if c1.2 = ((zi 0)) then zrZ c1.1 ((zi 0)) else (zgI 9 19 c1.1 x0).bind fun v2 => (if v2 = ((zi 1)) then (zgI 9 20 c1.1 x0).bind fun v3 => (if v3 = x1 then zrZ c1.1 ((zi 1)) else zrZ c1.1 ((zi 0))) else zrZ c1.1 ((zi 0))))
def jX10_number_42 (σ : zS) (x0 : Nat)  : Option (zS × Int32) :=
  (zgI 9 21 σ x0).bind fun v4 => (zck 9 σ x0 (fX10_goOn σ x0 )).bind fun c5 => some (c5, v4)
def jX10_number_14 (σ : zS) (x0 : Nat) (x1 : Int32) (x2 : Int32) (y0 : Int32) (y1 : Nat) : Option (zS × Int32) :=
  (zck 9 σ y1 (fX10_needs σ y1 y0 ((zi 1)))).bind fun c2 => (zck 9 c2 x0 (fX10_fine c2 x0 )).bind fun c3 => (if c3.2 = ((zi 0)) then jX10_number_42 c3.1 x0 else (zgI 9 21 c3.1 x0).bind fun v6 => (fX10_isIn c3.1 v6.toInt64 x1.toInt64 x2.toInt64).bind fun c7 => (zck 9 c7.1 x0 (fX10_needs c7.1 x0 c7.2 ((zi 2)))).bind fun c8 => jX10_number_42 c8 x0)
def fX10_number (σ : zS) (x0 : Nat) (x1 : Int32) (x2 : Int32) : Option (zS × Int32) :=
  (zgI 9 19 σ x0).bind fun v1 => (if v1 = ((zi 2)) then jX10_number_14 σ x0 x1 x2 ((zi 1)) x0 else jX10_number_14 σ x0 x1 x2 ((zi 0)) x0)
def fX10_numberBehind (σ : zS) (x0 : Nat) (x1 : Int32) (x2 : Int32) (x3 : Int32) : Option (zS × Int32) :=
  (zck 9 σ x0 (fX10_isWord σ x0 x1)).bind fun c1 => (zck 9 c1.1 x0 (fX10_needs c1.1 x0 c1.2 ((zi 1)))).bind fun c2 => (zck 9 c2 x0 (fX10_goOn c2 x0 )).bind fun c3 => (zck 9 c3 x0 (fX10_number c3 x0 x2 x3)).bind fun c4 => some (c4.1, c4.2)
def sX10_nameHere_7b (x0 : Nat) (σ : zS) (u1 : Int64) (u3 : Int32) : Option ((zS × Int64 × Int32) ⊕ (zS × Int64)) :=
  (zgI 9 17 σ x0).bind fun v2 => (if v2 ≤ u3 then some (.inr (σ, u1)) else (zgR 9 14 σ x0).bind fun v3 => (zaB σ v3 u3).bind fun v4 => some (.inl (σ, ((27 * u1) + v4.toInt64) - 96, u3 + (zi 1))))
def sX10_nameHere_7 (x0 : Nat) (z : (zS × Int64 × Int32)) : Option ((zS × Int64 × Int32) ⊕ (zS × Int64)) := sX10_nameHere_7b x0 z.1 z.2.1 z.2.2
def fX10_nameHere (σ : zS) (x0 : Nat) : Option (zS × Int64) :=
  (zgI 9 18 σ x0).bind fun v1 => (zloop (sX10_nameHere_7 x0) zfuel (σ, 0, v1)).bind fun o6 => some (o6.1, o6.2)
def sX10_placeOf_3b (x0 : Int64) (x2 : Nat) (x3 : Int32) (σ : zS) (u4 : Int32) : Option ((zS × Int32) ⊕ ((zS × Int32) ⊕ zS)) :=
  (if x3 ≤ u4 then some (.inr (.inr σ)) else (zaJ σ x2 u4).bind fun v1 => (if (lg_cmp v1 x0) = ((zi 0)) then some (.inr (.inl (σ, u4))) else some (.inl (σ, u4 + (zi 1)))))
def sX10_placeOf_3 (x0 : Int64) (x2 : Nat) (x3 : Int32) (z : (zS × Int32)) : Option ((zS × Int32) ⊕ ((zS × Int32) ⊕ zS)) := sX10_placeOf_3b x0 x2 x3 z.1 z.2
def fX10_placeOf (σ : zS) (x0 : Int64) (x2 : Nat) (x3 : Int32) : Option (zS × Int32) :=
  (zloop (sX10_placeOf_3 x0 x2 x3) zfuel (σ, (zi 0))).bind fun o4 => (match o4 with | (.inl z5) => some (z5.1, z5.2) | (.inr z6) => some (z6, (zi (-1))))
def jX10_readsSource_163 (σ : zS) (x0 : Nat) (x1 : Int32) (x2 : Int32) (x3 : Int32) (y0 : Int32) : Option zS :=
  (zck 9 σ x0 (fX10_fine σ x0 )).bind fun c16 => (if c16.2 = ((zi 0)) then some c16.1 else (zgR 9 27 c16.1 x0).bind fun v17 => (zsI c16.1 v17 x1 x2).bind fun σ18 => (zgR 9 28 σ18 x0).bind fun v19 => (zsI σ18 v19 x1 x3).bind fun σ20 => (zgR 9 7 σ20 x0).bind fun v21 => (zsI σ20 v21 (((zi 9)) + x1) y0).bind fun σ22 => (zpI 9 24 σ22 x0 (x1 + ((zi 1)))).bind fun σ23 => some σ23)
def jX10_readsSource_115 (σ : zS) (x0 : Nat) (x1 : Int32)  : Option zS :=
  (zck 9 σ x0 (fX10_goOn σ x0 )).bind fun c12 => (zck 9 c12 x0 (fX10_numberBehind c12 x0 ((zi 6)) ((zi 0)) ((zi 200)))).bind fun c13 => (zck 9 c13.1 x0 (fX10_numberBehind c13.1 x0 ((zi 7)) ((zi 0)) ((zi 999)))).bind fun c14 => (zck 9 c14.1 x0 (fX10_isWord c14.1 x0 ((zi 8)))).bind fun c15 => (if c15.2 = ((zi 0)) then jX10_readsSource_163 c15.1 x0 x1 c13.2 c14.2 ((zi 0)) else (zck 9 c15.1 x0 (fX10_numberBehind c15.1 x0 ((zi 8)) ((zi 0)) ((zi 9)))).bind fun c25 => jX10_readsSource_163 c25.1 x0 x1 c13.2 c14.2 c25.2)
def jX10_readsSource_94 (σ : zS) (x0 : Nat) (x1 : Int32) (y0 : Int32) (y1 : Nat) : Option zS :=
  (zck 9 σ y1 (fX10_needs σ y1 y0 ((zi 3)))).bind fun c10 => (zck 9 c10 x0 (fX10_fine c10 x0 )).bind fun c11 => (if c11.2 = ((zi 0)) then jX10_readsSource_115 c11.1 x0 x1 else (zgR 9 29 c11.1 x0).bind fun v27 => (zck 9 c11.1 x0 (fX10_nameHere c11.1 x0 )).bind fun c28 => (zsJ c28.1 v27 x1 c28.2).bind fun σ29 => jX10_readsSource_115 σ29 x0 x1)
def jX10_readsSource_60 (σ : zS) (x0 : Nat) (x1 : Int32) (y0 : Int32) (y1 : Nat) : Option zS :=
  (zck 9 σ y1 (fX10_needs σ y1 y0 ((zi 1)))).bind fun c5 => (zck 9 c5 x0 (fX10_fine c5 x0 )).bind fun c6 => (if c6.2 = ((zi 0)) then some c6.1 else (zck 9 c6.1 x0 (fX10_nameHere c6.1 x0 )).bind fun c7 => (zgR 9 29 c7.1 x0).bind fun v8 => (fX10_placeOf c7.1 c7.2 v8 x1).bind fun c9 => (if c9.2 = ((zi (-1))) then jX10_readsSource_94 c9.1 x0 x1 ((zi 1)) x0 else jX10_readsSource_94 c9.1 x0 x1 ((zi 0)) x0))
def jX10_readsSource_59 (σ : zS) (x0 : Nat) (x1 : Int32) (y0 : Nat) : Option zS :=
  jX10_readsSource_60 σ x0 x1 ((zi 0)) y0
def jX10_readsSource_16 (σ : zS) (x0 : Nat) (x1 : Int32) (y0 : Int32) (y1 : Nat) : Option zS :=
  (zck 9 σ y1 (fX10_needs σ y1 y0 ((zi 4)))).bind fun c2 => (zck 9 c2 x0 (fX10_goOn c2 x0 )).bind fun c3 => (zgI 9 19 c3 x0).bind fun v4 => (if v4 = ((zi 1)) then (zgI 9 20 c3 x0).bind fun v33 => (if v33 = ((zi (-1))) then (zgI 9 17 c3 x0).bind fun v34 => (zgI 9 18 c3 x0).bind fun v35 => (if ((zi 8)) < (v34 - v35) then jX10_readsSource_59 c3 x0 x1 x0 else jX10_readsSource_60 c3 x0 x1 ((zi 1)) x0) else jX10_readsSource_59 c3 x0 x1 x0) else jX10_readsSource_59 c3 x0 x1 x0)
def fX10_readsSource (σ : zS) (x0 : Nat) : Option zS :=
  (zgI 9 24 σ x0).bind fun v1 => (if ((zi 4)) ≤ v1 then jX10_readsSource_16 σ x0 v1 ((zi 0)) x0 else jX10_readsSource_16 σ x0 v1 ((zi 1)) x0)
def jX10_once_17 (σ : zS) (x0 : Nat) (x1 : Int32) (y0 : Int32) (y1 : Nat) : Option zS :=
  (zck 9 σ y1 (fX10_needs σ y1 y0 ((zi 3)))).bind fun c2 => (zgI 9 26 c2 x0).bind fun v3 => (zpI 9 26 c2 x0 (v3 ||| (((zi 1)) <<< (x1 &&& 31)))).bind fun σ4 => (zck 9 σ4 x0 (fX10_goOn σ4 x0 )).bind fun c5 => some c5
def fX10_once (σ : zS) (x0 : Nat) (x1 : Int32) : Option zS :=
  (zgI 9 26 σ x0).bind fun v1 => (if ((v1 >>> (x1 &&& 31)) &&& ((zi 1))) = ((zi 0)) then jX10_once_17 σ x0 x1 ((zi 1)) x0 else jX10_once_17 σ x0 x1 ((zi 0)) x0)
def jX10_readsOnce_57 (σ : zS) (x0 : Nat) (x1 : Int32) (y0 : Int32) : Option zS :=
  (zck 9 σ x0 (fX10_fine σ x0 )).bind fun c3 => (if c3.2 = ((zi 0)) then some c3.1 else (if x1 = (zi 0) then (zgR 9 7 c3.1 x0).bind fun v5 => (zsI c3.1 v5 ((zi 1)) y0).bind fun σ6 => some σ6 else (if x1 = (zi 1) then (zpI 9 25 c3.1 x0 y0).bind fun σ8 => some σ8 else (if x1 = (zi 2) then (zgR 9 7 c3.1 x0).bind fun v10 => (zsI c3.1 v10 ((zi 2)) y0).bind fun σ11 => some σ11 else (if x1 = (zi 3) then (zgR 9 7 c3.1 x0).bind fun v13 => (zsI c3.1 v13 ((zi 3)) y0).bind fun σ14 => some σ14 else (zgR 9 7 c3.1 x0).bind fun v15 => (zsI c3.1 v15 ((zi 4)) y0).bind fun σ16 => some σ16)))))
def jX10_readsOnce_54 (σ : zS) (x0 : Nat) (x1 : Int32) (y0 : Int32) (y1 : Int32) (y2 : Nat) : Option zS :=
  (zck 9 σ y2 (fX10_number σ y2 y1 y0)).bind fun c2 => jX10_readsOnce_57 c2.1 x0 x1 c2.2
def jX10_readsOnce_25 (σ : zS) (x0 : Nat) (x1 : Int32) (y0 : Int32) (y1 : Nat) : Option zS :=
  (if x1 = ((zi 0)) then jX10_readsOnce_54 σ x0 x1 ((zi 4)) y0 y1 else (if x1 = ((zi 1)) then jX10_readsOnce_54 σ x0 x1 ((zi 2)) y0 y1 else (if x1 = ((zi 2)) then jX10_readsOnce_54 σ x0 x1 ((zi 9)) y0 y1 else jX10_readsOnce_54 σ x0 x1 ((zi 99)) y0 y1)))
def fX10_readsOnce (σ : zS) (x0 : Nat) (x1 : Int32) : Option zS :=
  (zck 9 σ x0 (fX10_once σ x0 x1)).bind fun c1 => (if x1 = ((zi 4)) then jX10_readsOnce_57 c1 x0 x1 ((zi 1)) else (if x1 = ((zi 3)) then jX10_readsOnce_25 c1 x0 x1 ((zi 0)) x0 else jX10_readsOnce_25 c1 x0 x1 ((zi 1)) x0))
def jX10_statement_69 (σ : zS) (x0 : Nat) (y0 : Int32) (y1 : Nat) : Option zS :=
  (zck 9 σ y1 (fX10_needs σ y1 y0 ((zi 1)))).bind fun c5 => (zck 9 c5 x0 (fX10_goOn c5 x0 )).bind fun c6 => some c6
def jX10_statement_55 (σ : zS) (x0 : Nat)  : Option zS :=
  (zgI 9 19 σ x0).bind fun v4 => (if v4 = ((zi 3)) then jX10_statement_69 σ x0 ((zi 1)) x0 else jX10_statement_69 σ x0 ((zi 0)) x0)
def jX10_statement_49 (σ : zS) (x0 : Nat)  : Option zS :=
  (zck 9 σ x0 (fX10_needs σ x0 ((zi 0)) ((zi 1)))).bind fun c3 => jX10_statement_55 c3 x0
def fX10_statement (σ : zS) (x0 : Nat) : Option zS :=
  (zck 9 σ x0 (fX10_isWord σ x0 ((zi 5)))).bind fun c1 => (if c1.2 = ((zi 0)) then (zgI 9 19 c1.1 x0).bind fun v2 => (if v2 = ((zi 1)) then (zgI 9 20 c1.1 x0).bind fun v8 => (fX10_isIn c1.1 v8.toInt64 0 4).bind fun c9 => (if c9.2 = ((zi 0)) then jX10_statement_49 c9.1 x0 else (zgI 9 20 c9.1 x0).bind fun v10 => (zck 9 c9.1 x0 (fX10_readsOnce c9.1 x0 v10)).bind fun c11 => jX10_statement_55 c11 x0) else jX10_statement_49 c1.1 x0) else (zck 9 c1.1 x0 (fX10_readsSource c1.1 x0 )).bind fun c14 => jX10_statement_55 c14 x0)
def fX10_startsReading (σ : zS) (x0 : Nat) : Option zS :=
  (zgI 9 15 σ x0).bind fun v1 => (zpI 9 16 σ x0 v1).bind fun σ2 => (zpI 9 15 σ2 x0 ((zi 0))).bind fun σ3 => (zpI 9 17 σ3 x0 ((zi 0))).bind fun σ4 => (zck 9 σ4 x0 (fX10_next σ4 x0 )).bind fun c5 => some c5
def sX10_parse_23b (x0 : Nat) (σ : zS)  : Option (zS ⊕ zS) :=
  (zck 9 σ x0 (fX10_fine σ x0 )).bind fun c6 => (if c6.2 = ((zi 0)) then some (.inr c6.1) else (zgI 9 19 c6.1 x0).bind fun v7 => (if v7 = ((zi 0)) then some (.inr c6.1) else (zck 9 c6.1 x0 (fX10_statement c6.1 x0 )).bind fun c8 => some (.inl c8)))
def sX10_parse_23 (x0 : Nat) (z : zS) : Option (zS ⊕ zS) := sX10_parse_23b x0 z
def jX10_parse_57 (σ : zS) (x0 : Nat) (y0 : Int32) (y1 : Nat) : Option (zS × Int32) :=
  (zck 9 σ y1 (fX10_needs σ y1 y0 ((zi 5)))).bind fun c13 => (zck 9 c13 x0 (fX10_fine c13 x0 )).bind fun c14 => (if c14.2 = ((zi 0)) then some (c14.1, (zi (-1))) else (zck 9 c14.1 x0 (fX10_takesDraft c14.1 x0 )).bind fun c15 => (zgI 9 1 c15 x0).bind fun v16 => some (c15, v16))
def jX10_parse_44 (σ : zS) (x0 : Nat)  : Option (zS × Int32) :=
  (zgI 9 24 σ x0).bind fun v12 => (if v12 ≤ ((zi 0)) then jX10_parse_57 σ x0 ((zi 0)) x0 else jX10_parse_57 σ x0 ((zi 1)) x0)
def fX10_parse (σ : zS) (x0 : Nat) : Option (zS × Int32) :=
  (zpI 9 0 σ x0 ((zi 0))).bind fun σ1 => (zpI 9 22 σ1 x0 ((zi 0))).bind fun σ2 => (zpI 9 23 σ2 x0 ((zi (-1)))).bind fun σ3 => (zck 9 σ3 x0 (fX10_clears σ3 x0 )).bind fun c4 => (zck 9 c4 x0 (fX10_startsReading c4 x0 )).bind fun c5 => (zloop (sX10_parse_23 x0) zfuel c5).bind fun o11 => jX10_parse_44 o11 x0
def fX10_errorCode (σ : zS) (x0 : Nat) : Option (zS × Int32) :=
  (zpI 9 0 σ x0 ((zi 0))).bind fun σ1 => (zgI 9 22 σ1 x0).bind fun v2 => some (σ1, v2)
def fX10_errorOffset (σ : zS) (x0 : Nat) : Option (zS × Int32) :=
  (zpI 9 0 σ x0 ((zi 0))).bind fun σ1 => (zgI 9 23 σ1 x0).bind fun v2 => some (σ1, v2)
def fX10_find (σ : zS) (x0 : Nat) : Option (zS × Int32) :=
  (zpI 9 0 σ x0 ((zi 0))).bind fun σ1 => (zgI 9 15 σ1 x0).bind fun v2 => (zck 9 σ1 x0 (fX10_startsReading σ1 x0 )).bind fun c3 => (zgI 9 19 c3 x0).bind fun v4 => (if v4 = ((zi 1)) then (zgI 9 18 c3 x0).bind fun v5 => (if v5 = ((zi 0)) then (zgI 9 17 c3 x0).bind fun v6 => (if v6 = v2 then (if v2 ≤ ((zi 8)) then (zck 9 c3 x0 (fX10_nameHere c3 x0 )).bind fun c7 => (zgR 9 5 c7.1 x0).bind fun v8 => (zgI 9 1 c7.1 x0).bind fun v9 => (fX10_placeOf c7.1 c7.2 v8 v9).bind fun c10 => some (c10.1, c10.2) else some (c3, (zi (-1)))) else some (c3, (zi (-1)))) else some (c3, (zi (-1)))) else some (c3, (zi (-1))))
def fX10_says (σ : zS) (x0 : Nat) (x1 : Int32) : Option zS :=
  (zgR 9 30 σ x0).bind fun v1 => (zgI 9 31 σ x0).bind fun v2 => (zsB σ v1 v2 x1.toInt8.toInt32).bind fun σ3 => (zgI 9 31 σ3 x0).bind fun v4 => (zpI 9 31 σ3 x0 (v4 + ((zi 1)))).bind fun σ5 => some σ5
def fX10_outputByte (σ : zS) (x0 : Nat) (x1 : Int32) : Option (zS × Int32) :=
  (zpI 9 0 σ x0 ((zi 0))).bind fun σ1 => (zgI 9 31 σ1 x0).bind fun v2 => (fX10_isIn σ1 x1.toInt64 0 (v2.toInt64 - 1)).bind fun c3 => (if c3.2 = ((zi 0)) then some (c3.1, (zi (-1))) else (zgR 9 30 c3.1 x0).bind fun v4 => (zaB c3.1 v4 x1).bind fun v5 => some (c3.1, v5))
