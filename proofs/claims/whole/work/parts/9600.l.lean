/-! THE CLAIM OUT OF ONE WALK OF THE LAW'S BODY. Your part is whole_start (and what it stands on); all else here is the same for every law, but numbers. -/
def R_law : String := "BarrierFlowLaw"
def lw_P (b : Addr) (xs : List Int32) (args : Array Value) (s : State) : Prop := args = #[.ref b] ∧ s.IntsAt b xs ∧ xs.length ≤ 3072 ∧ (Jvm.Cond.and given_1 narrow_1).before args s = true
/-- what a walk over the start with the record d0 says of its end, said of the start itself -/
theorem lw_closed {s t : State} {o : Outcome} {d0 : Drawn} {L : List Loc} {k n : Nat} (hd0 : s.drawn.sameBut d0 lw_cs) (hv : ∃ v, o = .returned v) (hW : (s.setDrawn d0).WarmedH t.vm) (hs : (s.setDrawn d0).sameButNew ({ t with vm := s.vm } : State) L k n) : State.butDraws s t lw_cs (fun t1 => Framed s o t1 L k n) := by
  have h2 : t.drawn = d0 := congrArg State.drawn hs.1
  refine ⟨⟨hv, hW, State.sameButNew.setDrawn hs s.drawn⟩, ?_, by decide⟩
  rw [h2]
  exact hd0
def lw_Q (_ : Array Value) (s : State) (o : Outcome) (t : State) : Prop := o = .returned (some (.int 1)) ∧ State.butDraws s t lw_cs (fun t1 => Framed s o t1 [] 601024 7293034)
def lw_Z (below : List Frame) (a : Array Value) (s : State) : State → Prop := fun t => ∃ o, t.status = .running ∧ Ended t below o ∧ lw_Q a s o t
/-- the law's own end, with 1 on the stack, nothing written that was there before, its room as the claim has it; d0: the record of draws at this point (at the entry s.drawn: begin with 'refine W.base ?_' and 'have hd0 := Drawn.sameBut.refl s.drawn lw_cs') -/
theorem lw_ret {p : Program} {l : Launch} {e : Env} {s : State} {m : MethodId} {below : List Frame} {meth : Method} {c : Code} {b : Nat} {d0 : Drawn} (hd0 : s.drawn.sameBut d0 lw_cs) (hx : p.tables.exec = Jvm.exec) (hb : c.code = code) (hr : meth.sig.returnType = ret) (hlocks : meth.locks = false) {pc : Nat} {H : Heap} {ls : Array Slot} (hdg : decode code pc = .ok (.ireturn, 1)) : W p l e room_1 (s.setDrawn d0) m #[Value.ref b] below meth c H [] 601024 7293034 (lw_Z below #[Value.ref b] s) (F0 m pc ls [.int 1]) := by
  intro T hT X
  obtain ⟨fs, hret, hrun, hended, hW, hframe⟩ := X.leave (v := some (.int 1)) (hlocks := hlocks) (fun h => by rw [hr] at h; cases h)
  have hmeth' : T.vm.method? m = some meth := X.method'
  refine ⟨T.setFrames fs, ?_, .returned (some (.int 1)), hrun, hended, rfl, lw_closed hd0 ⟨_, rfl⟩ hW hframe⟩
  jvm_step X.here [X.here.top, hx, hb, hdg, hmeth', hr, ret, narrow_b1]
  (try refine ⟨rfl, ?_⟩); (try refine ⟨rfl, ?_⟩)
  first | (intro acts; rw [hret _ acts rfl rfl rfl]) | rw [hret _ _ rfl rfl rfl]
  exact Steps.refl _
/-- what holds at the law's entry: the machine, the code, the tables' words (any of lw_tbl by 'hts w (by decide +kernel)'), the script of L ints xs at the cell b, what the Statement gives of the start (any of its parts by flat_of_before) -/
def lw_At (p : Program) (s : State) (m : MethodId) (meth : Method) (c : Code) (b L : Nat) (xs : Nat → Int32) : Prop :=
  p.tables.exec = Jvm.exec ∧ c.code = code ∧ meth.sig.returnType = ret ∧ c.maxLocals = 9 ∧ s.vm.findClass R_law = some m.cls ∧ (∀ w ∈ lw_tbl, w.before #[Value.ref b] s = true) ∧ va_X b L xs s s.heap ∧ b < s.heap.size ∧ meth.locks = false ∧ (Jvm.Cond.and given_1 narrow_1).before #[Value.ref b] s = true
/-! The law's loop. -/
theorem dL_law_23 : decode cL_law 23 = .ok (.iload 4, 2) := by decide +kernel
theorem dL_law_25 : decode cL_law 25 = .ok (.aload_n 0, 1) := by decide +kernel
theorem dL_law_26 : decode cL_law 26 = .ok (.arraylength, 1) := by decide +kernel
theorem dL_law_27 : decode cL_law 27 = .ok (.bipush 6, 2) := by decide +kernel
theorem dL_law_29 : decode cL_law 29 = .ok (.isub, 1) := by decide +kernel
theorem dL_law_30 : decode cL_law 30 = .ok (.if_icmp .gt 2271, 3) := by decide +kernel
theorem dL_law_33 : decode cL_law 33 = .ok (.aload_n 0, 1) := by decide +kernel
theorem dL_law_34 : decode cL_law 34 = .ok (.iload 4, 2) := by decide +kernel
theorem dL_law_36 : decode cL_law 36 = .ok (.iaload, 1) := by decide +kernel
theorem dL_law_37 : decode cL_law 37 = .ok (.bipush 63, 2) := by decide +kernel
theorem dL_law_39 : decode cL_law 39 = .ok (.iand, 1) := by decide +kernel
theorem dL_law_40 : decode cL_law 40 = .ok (.tableswitch 2255 0 42 #[188, 261, 286, 299, 312, 325, 350, 363, 431, 511, 567, 623, 691, 759, 839, 935, 1031, 1087, 1143, 1199, 1255, 1311, 1379, 1392, 1435, 1476, 1489, 1545, 1617, 1630, 1686, 1742, 1810, 1894, 1938, 1994, 2035, 2048, 2061, 2117, 2173, 2198, 2211], 188) := by decide +kernel
theorem dL_law_2295 : decode cL_law 2295 = .ok (.iinc 4 6, 3) := by decide +kernel
theorem dL_law_2298 : decode cL_law 2298 = .ok (.goto (-2275), 3) := by decide +kernel
theorem dL_law_2301 : decode cL_law 2301 = .ok (.iconst 1, 1) := by decide +kernel
theorem dL_law_2302 : decode cL_law 2302 = .ok (.ireturn, 1) := by decide +kernel
set_option maxRecDepth 100000 in
set_option maxHeartbeats 4000000 in
theorem law_loop {p : Program} {e : Env} {s : State} {m : MethodId} {below : List Frame} {meth : Method} {c : Code} {l : Launch} (hl0 : l.stackTraces = false) {b L X : Nat} {xs : Nat → Int32} {D : va_G} {Ca : Nat → ClassId} (ev : zEv) (C : zC p s m #[Value.ref b] meth c cL_law RL 9 D Ca s.heap.size (zEn ev s.heap.size)) (hr : meth.sig.returnType = ret) (hLS : zLS s s.heap.size b L xs) : ∀ (n i : Nat) (σ : zS) (N cells slots : Nat) (z : Int), L < i + 6 * n + 6 → i + 6 * n ≤ 100000 → cells + n ≤ 600000 → slots + 6 * n ≤ 7000000 → 0 ≤ z → z + 501 * n < 600000000 → J X z σ →
    zW p l e room_1 s m #[Value.ref b] below meth c cells slots (lw_Z below #[Value.ref b] s) D Ca s.heap.size 9 σ N 23 (lawLv b X i) [] := by
  have hL := hLS.2.2.2
  have fin : ∀ (i : Nat) (σ : zS) (N cells slots : Nat), cells ≤ 601024 → slots ≤ 7293034 → zW p l e room_1 s m #[Value.ref b] below meth c cells slots (lw_Z below #[Value.ref b] s) D Ca s.heap.size 9 σ N 2301 (lawLv b X i) [] := by
    intro i σ N cells slots h1 h2
    refine z_iconst C 1 dL_law_2301 (by decide) ?_
    intro H locs ls h hS hl
    exact va_forget hS.2.2 (W.widen h1 h2 (W.base (lw_ret (Drawn.sameBut.refl s.drawn lw_cs) C.1 C.2.1 hr C.2.2.2.2.2.2.2.2.2.1 dL_law_2302)))
  intro n
  induction n with
  | zero =>
    intro i σ N cells slots z hn hi9 hc hs h0 hz hJ
    refine z_iload C dL_law_23 4 rfl ?_
    refine z_aload_n C dL_law_25 rfl 0 rfl ?_
    refine z_slen C hLS dL_law_26 ?_
    refine z_bipush C (zi 6) dL_law_27 (by decide) ?_
    refine z_isub C dL_law_29 ?_
    refine z_icmp_gt C 2301 dL_law_30 (by decide) (fun _ => fin i σ N cells slots (by omega) (by omega)) (fun q => absurd ?_ q)
    rw [zi_sub, zi_lt (by omega) (by omega) (by omega) (by omega)]
    omega
  | succ n ih =>
    intro i σ N cells slots z hn hi9 hc hs h0 hz hJ
    refine z_iload C dL_law_23 4 rfl ?_
    refine z_aload_n C dL_law_25 rfl 0 rfl ?_
    refine z_slen C hLS dL_law_26 ?_
    refine z_bipush C (zi 6) dL_law_27 (by decide) ?_
    refine z_isub C dL_law_29 ?_
    by_cases hi : i + 6 ≤ L
    case neg =>
      refine z_icmp_gt C 2301 dL_law_30 (by decide) (fun _ => fin i σ N cells slots (by omega) (by omega)) (fun q => absurd ?_ q)
      rw [zi_sub, zi_lt (by omega) (by omega) (by omega) (by omega)]
      omega
    refine z_icmp_gt C 2301 dL_law_30 (by decide) (fun _ => fin i σ N cells slots (by omega) (by omega)) (fun _ => ?_)
    have kk9 : ∀ (σ2 : zS) (N2 : Nat), N ≤ N2 → J X (z + 501) σ2 → zW p l e room_1 s m #[Value.ref b] below meth c (cells + 1) (slots + 6) (lw_Z below #[Value.ref b] s) D Ca s.heap.size 9 σ2 N2 2295 (lawLv b X i) [] := by
      intro σ2 N2 _ hJ2
      refine z_iinc (lv2 := [(4, .int (zi ((i + 6 : Nat) : Int))), (0, .ref b), (1, .ref X), (2, .ref (X + 307)), (3, .ref (X + 322))]) C (zi ((i + 6 : Nat) : Int)) dL_law_2295 4 rfl (z_ix i 6) (by decide) rfl ?_
      refine z_goto C 23 dL_law_2298 (by decide) ?_
      refine z_sub [1, 2, 3, 4, 0] rfl ?_
      exact ih (i + 6) σ2 N2 (cells + 1) (slots + 6) (z + 501) (by omega) (by omega) (by omega) (by omega) (by omega) (by omega) hJ2
    have hRm : zRm room_1 2048 84000 (cells + 1) (slots + 6) := ⟨Nat.le_refl _, Nat.le_refl _, show cells + 1 ≤ 601024 by omega, show slots + 6 ≤ 7293034 by omega⟩
    have hT : ∀ U : State, zEn ev s.heap.size U → zThr s.heap.size U := fun U h => h.2.1
    have hT2 : ∀ U : State, zEn ev s.heap.size U → va_Nc (zEx 4) (zEx 1) U ∧ va_Nc (zEx 2) (zEx 1) U := fun U h => h.2.2.1
    have hZ : ∀ U : State, zEn ev s.heap.size U → zEnv ev s.heap.size U := fun U h => h.1
    refine z_aload_n C dL_law_33 rfl 0 rfl ?_
    refine z_iload C dL_law_34 4 rfl ?_
    refine z_sld C hLS i rfl (by omega) dL_law_36 ?_
    refine z_bipush C (zi 63) dL_law_37 (by decide) ?_
    refine z_iand C dL_law_39 ?_
    obtain ⟨k, hk, ek⟩ := and63 (xs i)
    rw [ek]
    clear ek
    match k, hk with
    | 0, _ => exact z_tableIn C 228 dL_law_40 (by decide) (by decide) rfl (by decide) (law_0 C hT hT2 hl0 ev hZ hLS hi hRm σ hJ h0 (by omega) kk9)
    | 1, _ => exact z_tableIn C 301 dL_law_40 (by decide) (by decide) rfl (by decide) (law_1 C hT hT2 hl0 ev hZ hLS hi hRm σ hJ h0 (by omega) kk9)
    | 2, _ => exact z_tableIn C 326 dL_law_40 (by decide) (by decide) rfl (by decide) (law_2 C hT hT2 hl0 ev hZ hLS hi hRm σ hJ h0 (by omega) kk9)
    | 3, _ => exact z_tableIn C 339 dL_law_40 (by decide) (by decide) rfl (by decide) (law_3 C hT hT2 hl0 ev hZ hLS hi hRm σ hJ h0 (by omega) kk9)
    | 4, _ => exact z_tableIn C 352 dL_law_40 (by decide) (by decide) rfl (by decide) (law_4 C hT hT2 hl0 ev hZ hLS hi hRm σ hJ h0 (by omega) kk9)
    | 5, _ => exact z_tableIn C 365 dL_law_40 (by decide) (by decide) rfl (by decide) (law_5 C hT hT2 hl0 ev hZ hLS hi hRm σ hJ h0 (by omega) kk9)
    | 6, _ => exact z_tableIn C 390 dL_law_40 (by decide) (by decide) rfl (by decide) (law_6 C hT hT2 hl0 ev hZ hLS hi hRm σ hJ h0 (by omega) kk9)
    | 7, _ => exact z_tableIn C 403 dL_law_40 (by decide) (by decide) rfl (by decide) (law_7 C hT hT2 hl0 ev hZ hLS hi hRm σ hJ h0 (by omega) kk9)
    | 8, _ => exact z_tableIn C 471 dL_law_40 (by decide) (by decide) rfl (by decide) (law_8 C hT hT2 hl0 ev hZ hLS hi hRm σ hJ h0 (by omega) kk9)
    | 9, _ => exact z_tableIn C 551 dL_law_40 (by decide) (by decide) rfl (by decide) (law_9 C hT hT2 hl0 ev hZ hLS hi hRm σ hJ h0 (by omega) kk9)
    | 10, _ => exact z_tableIn C 607 dL_law_40 (by decide) (by decide) rfl (by decide) (law_10 C hT hT2 hl0 ev hZ hLS hi hRm σ hJ h0 (by omega) kk9)
    | 11, _ => exact z_tableIn C 663 dL_law_40 (by decide) (by decide) rfl (by decide) (law_11 C hT hT2 hl0 ev hZ hLS hi hRm σ hJ h0 (by omega) kk9)
    | 12, _ => exact z_tableIn C 731 dL_law_40 (by decide) (by decide) rfl (by decide) (law_12 C hT hT2 hl0 ev hZ hLS hi hRm σ hJ h0 (by omega) kk9)
    | 13, _ => exact z_tableIn C 799 dL_law_40 (by decide) (by decide) rfl (by decide) (law_13 C hT hT2 hl0 ev hZ hLS hi hRm σ hJ h0 (by omega) kk9)
    | 14, _ => exact z_tableIn C 879 dL_law_40 (by decide) (by decide) rfl (by decide) (law_14 C hT hT2 hl0 ev hZ hLS hi hRm σ hJ h0 (by omega) kk9)
    | 15, _ => exact z_tableIn C 975 dL_law_40 (by decide) (by decide) rfl (by decide) (law_15 C hT hT2 hl0 ev hZ hLS hi hRm σ hJ h0 (by omega) kk9)
    | 16, _ => exact z_tableIn C 1071 dL_law_40 (by decide) (by decide) rfl (by decide) (law_16 C hT hT2 hl0 ev hZ hLS hi hRm σ hJ h0 (by omega) kk9)
    | 17, _ => exact z_tableIn C 1127 dL_law_40 (by decide) (by decide) rfl (by decide) (law_17 C hT hT2 hl0 ev hZ hLS hi hRm σ hJ h0 (by omega) kk9)
    | 18, _ => exact z_tableIn C 1183 dL_law_40 (by decide) (by decide) rfl (by decide) (law_18 C hT hT2 hl0 ev hZ hLS hi hRm σ hJ h0 (by omega) kk9)
    | 19, _ => exact z_tableIn C 1239 dL_law_40 (by decide) (by decide) rfl (by decide) (law_19 C hT hT2 hl0 ev hZ hLS hi hRm σ hJ h0 (by omega) kk9)
    | 20, _ => exact z_tableIn C 1295 dL_law_40 (by decide) (by decide) rfl (by decide) (law_20 C hT hT2 hl0 ev hZ hLS hi hRm σ hJ h0 (by omega) kk9)
    | 21, _ => exact z_tableIn C 1351 dL_law_40 (by decide) (by decide) rfl (by decide) (law_21 C hT hT2 hl0 ev hZ hLS hi hRm σ hJ h0 (by omega) kk9)
    | 22, _ => exact z_tableIn C 1419 dL_law_40 (by decide) (by decide) rfl (by decide) (law_22 C hT hT2 hl0 ev hZ hLS hi hRm σ hJ h0 (by omega) kk9)
    | 23, _ => exact z_tableIn C 1432 dL_law_40 (by decide) (by decide) rfl (by decide) (law_23 C hT hT2 hl0 ev hZ hLS hi hRm σ hJ h0 (by omega) kk9)
    | 24, _ => exact z_tableIn C 1475 dL_law_40 (by decide) (by decide) rfl (by decide) (law_24 C hT hT2 hl0 ev hZ hLS hi hRm σ hJ h0 (by omega) kk9)
    | 25, _ => exact z_tableIn C 1516 dL_law_40 (by decide) (by decide) rfl (by decide) (law_25 C hT hT2 hl0 ev hZ hLS hi hRm σ hJ h0 (by omega) kk9)
    | 26, _ => exact z_tableIn C 1529 dL_law_40 (by decide) (by decide) rfl (by decide) (law_26 C hT hT2 hl0 ev hZ hLS hi hRm σ hJ h0 (by omega) kk9)
    | 27, _ => exact z_tableIn C 1585 dL_law_40 (by decide) (by decide) rfl (by decide) (law_27 C hT hT2 hl0 ev hZ hLS hi hRm σ hJ h0 (by omega) kk9)
    | 28, _ => exact z_tableIn C 1657 dL_law_40 (by decide) (by decide) rfl (by decide) (law_28 C hT hT2 hl0 ev hZ hLS hi hRm σ hJ h0 (by omega) kk9)
    | 29, _ => exact z_tableIn C 1670 dL_law_40 (by decide) (by decide) rfl (by decide) (law_29 C hT hT2 hl0 ev hZ hLS hi hRm σ hJ h0 (by omega) kk9)
    | 30, _ => exact z_tableIn C 1726 dL_law_40 (by decide) (by decide) rfl (by decide) (law_30 C hT hT2 hl0 ev hZ hLS hi hRm σ hJ h0 (by omega) kk9)
    | 31, _ => exact z_tableIn C 1782 dL_law_40 (by decide) (by decide) rfl (by decide) (law_31 C hT hT2 hl0 ev hZ hLS hi hRm σ hJ h0 (by omega) kk9)
    | 32, _ => exact z_tableIn C 1850 dL_law_40 (by decide) (by decide) rfl (by decide) (law_32 C hT hT2 hl0 ev hZ hLS hi hRm σ hJ h0 (by omega) kk9)
    | 33, _ => exact z_tableIn C 1934 dL_law_40 (by decide) (by decide) rfl (by decide) (law_33 C hT hT2 hl0 ev hZ hLS hi hRm σ hJ h0 (by omega) kk9)
    | 34, _ => exact z_tableIn C 1978 dL_law_40 (by decide) (by decide) rfl (by decide) (law_34 C hT hT2 hl0 ev hZ hLS hi hRm σ hJ h0 (by omega) kk9)
    | 35, _ => exact z_tableIn C 2034 dL_law_40 (by decide) (by decide) rfl (by decide) (law_35 C hT hT2 hl0 ev hZ hLS hi hRm σ hJ h0 (by omega) kk9)
    | 36, _ => exact z_tableIn C 2075 dL_law_40 (by decide) (by decide) rfl (by decide) (law_36 C hT hT2 hl0 ev hZ hLS hi hRm σ hJ h0 (by omega) kk9)
    | 37, _ => exact z_tableIn C 2088 dL_law_40 (by decide) (by decide) rfl (by decide) (law_37 C hT hT2 hl0 ev hZ hLS hi hRm σ hJ h0 (by omega) kk9)
    | 38, _ => exact z_tableIn C 2101 dL_law_40 (by decide) (by decide) rfl (by decide) (law_38 C hT hT2 hl0 ev hZ hLS hi hRm σ hJ h0 (by omega) kk9)
    | 39, _ => exact z_tableIn C 2157 dL_law_40 (by decide) (by decide) rfl (by decide) (law_39 C hT hT2 hl0 ev hZ hLS hi hRm σ hJ h0 (by omega) kk9)
    | 40, _ => exact z_tableIn C 2213 dL_law_40 (by decide) (by decide) rfl (by decide) (law_40 C hT hT2 hl0 ev hZ hLS hi hRm σ hJ h0 (by omega) kk9)
    | 41, _ => exact z_tableIn C 2238 dL_law_40 (by decide) (by decide) rfl (by decide) (law_41 C hT hT2 hl0 ev hZ hLS hi hRm σ hJ h0 (by omega) kk9)
    | 42, _ => exact z_tableIn C 2251 dL_law_40 (by decide) (by decide) rfl (by decide) (law_42 C hT hT2 hl0 ev hZ hLS hi hRm σ hJ h0 (by omega) kk9)
    | k + 43, hk => exact z_tableOut C 2295 dL_law_40 (Or.inr (by rw [zi_toInt (by omega) (by omega)]; omega)) (by decide) (z_widen (by omega) (by omega) (kk9 σ N (Nat.le_refl N) (J_up hJ (by omega))))
