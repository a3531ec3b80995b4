/-! Methods: X10_feed, X10_truncate, X10_here, X10_wordHere, X10_next, X10_fine, X10_needs, X10_goOn, X10_isWord, X10_number, X10_numberBehind, X10_nameHere, X10_placeOf, X10_readsSource, X10_once, X10_readsOnce, X10_statement, X10_startsReading, X10_parse, X10_errorCode, X10_errorOffset, X10_find, X10_says, X10_outputByte -/
section ZM
variable {p : Program} {l : Launch} {e : Env} {R : Room} {s : State} {m : MethodId} {args : Array Value} {below : List Frame} {meth : Method} {c : Code} {cells slots : Nat} {Q : State → Prop} {D : va_G} {Ca : Nat → ClassId} {B : Nat} {En : State → Prop} {N : Nat}
theorem dX10_feed_0 : decode cX10_feed 0 = .ok (.aload_n 0, 1) := by decide +kernel
theorem dX10_feed_1 : decode cX10_feed 1 = .ok (.iconst 0, 1) := by decide +kernel
theorem dX10_feed_2 : decode cX10_feed 2 = .ok (.putfield 92, 3) := by decide +kernel
theorem dX10_feed_5 : decode cX10_feed 5 = .ok (.aload_n 0, 1) := by decide +kernel
theorem dX10_feed_6 : decode cX10_feed 6 = .ok (.getfield 357, 3) := by decide +kernel
theorem dX10_feed_9 : decode cX10_feed 9 = .ok (.bipush 20, 2) := by decide +kernel
theorem dX10_feed_11 : decode cX10_feed 11 = .ok (.iadd, 1) := by decide +kernel
theorem dX10_feed_12 : decode cX10_feed 12 = .ok (.sipush 300, 3) := by decide +kernel
theorem dX10_feed_15 : decode cX10_feed 15 = .ok (.if_icmp .le 5, 3) := by decide +kernel
theorem dX10_feed_18 : decode cX10_feed 18 = .ok (.iconst (-1), 1) := by decide +kernel
theorem dX10_feed_19 : decode cX10_feed 19 = .ok (.ireturn, 1) := by decide +kernel
theorem dX10_feed_20 : decode cX10_feed 20 = .ok (.iconst 0, 1) := by decide +kernel
theorem dX10_feed_21 : decode cX10_feed 21 = .ok (.istore 6, 2) := by decide +kernel
theorem dX10_feed_23 : decode cX10_feed 23 = .ok (.iload 6, 2) := by decide +kernel
theorem dX10_feed_25 : decode cX10_feed 25 = .ok (.bipush 20, 2) := by decide +kernel
theorem dX10_feed_27 : decode cX10_feed 27 = .ok (.if_icmp .ge 90, 3) := by decide +kernel
theorem dX10_feed_30 : decode cX10_feed 30 = .ok (.iload 6, 2) := by decide +kernel
theorem dX10_feed_32 : decode cX10_feed 32 = .ok (.iconst 4, 1) := by decide +kernel
theorem dX10_feed_33 : decode cX10_feed 33 = .ok (.if_icmp .ge 7, 3) := by decide +kernel
theorem dX10_feed_36 : decode cX10_feed 36 = .ok (.iload_n 1, 1) := by decide +kernel
theorem dX10_feed_37 : decode cX10_feed 37 = .ok (.goto 39, 3) := by decide +kernel
theorem dX10_feed_40 : decode cX10_feed 40 = .ok (.iload 6, 2) := by decide +kernel
theorem dX10_feed_42 : decode cX10_feed 42 = .ok (.bipush 8, 2) := by decide +kernel
theorem dX10_feed_44 : decode cX10_feed 44 = .ok (.if_icmp .ge 7, 3) := by decide +kernel
theorem dX10_feed_47 : decode cX10_feed 47 = .ok (.iload_n 2, 1) := by decide +kernel
theorem dX10_feed_48 : decode cX10_feed 48 = .ok (.goto 28, 3) := by decide +kernel
theorem dX10_feed_51 : decode cX10_feed 51 = .ok (.iload 6, 2) := by decide +kernel
theorem dX10_feed_53 : decode cX10_feed 53 = .ok (.bipush 12, 2) := by decide +kernel
theorem dX10_feed_55 : decode cX10_feed 55 = .ok (.if_icmp .ge 7, 3) := by decide +kernel
theorem dX10_feed_58 : decode cX10_feed 58 = .ok (.iload_n 3, 1) := by decide +kernel
theorem dX10_feed_59 : decode cX10_feed 59 = .ok (.goto 17, 3) := by decide +kernel
theorem dX10_feed_62 : decode cX10_feed 62 = .ok (.iload 6, 2) := by decide +kernel
theorem dX10_feed_64 : decode cX10_feed 64 = .ok (.bipush 16, 2) := by decide +kernel
theorem dX10_feed_66 : decode cX10_feed 66 = .ok (.if_icmp .ge 8, 3) := by decide +kernel
theorem dX10_feed_69 : decode cX10_feed 69 = .ok (.iload 4, 2) := by decide +kernel
theorem dX10_feed_71 : decode cX10_feed 71 = .ok (.goto 5, 3) := by decide +kernel
theorem dX10_feed_74 : decode cX10_feed 74 = .ok (.iload 5, 2) := by decide +kernel
theorem dX10_feed_76 : decode cX10_feed 76 = .ok (.istore 7, 2) := by decide +kernel
theorem dX10_feed_78 : decode cX10_feed 78 = .ok (.aload_n 0, 1) := by decide +kernel
theorem dX10_feed_79 : decode cX10_feed 79 = .ok (.getfield 40, 3) := by decide +kernel
theorem dX10_feed_82 : decode cX10_feed 82 = .ok (.aload_n 0, 1) := by decide +kernel
theorem dX10_feed_83 : decode cX10_feed 83 = .ok (.getfield 357, 3) := by decide +kernel
theorem dX10_feed_86 : decode cX10_feed 86 = .ok (.iload 7, 2) := by decide +kernel
theorem dX10_feed_88 : decode cX10_feed 88 = .ok (.bipush 24, 2) := by decide +kernel
theorem dX10_feed_90 : decode cX10_feed 90 = .ok (.bipush 8, 2) := by decide +kernel
theorem dX10_feed_92 : decode cX10_feed 92 = .ok (.iload 6, 2) := by decide +kernel
theorem dX10_feed_94 : decode cX10_feed 94 = .ok (.iconst 4, 1) := by decide +kernel
theorem dX10_feed_95 : decode cX10_feed 95 = .ok (.irem, 1) := by decide +kernel
theorem dX10_feed_96 : decode cX10_feed 96 = .ok (.imul, 1) := by decide +kernel
theorem dX10_feed_97 : decode cX10_feed 97 = .ok (.isub, 1) := by decide +kernel
theorem dX10_feed_98 : decode cX10_feed 98 = .ok (.ishr, 1) := by decide +kernel
theorem dX10_feed_99 : decode cX10_feed 99 = .ok (.i2b, 1) := by decide +kernel
theorem dX10_feed_100 : decode cX10_feed 100 = .ok (.bastore, 1) := by decide +kernel
theorem dX10_feed_101 : decode cX10_feed 101 = .ok (.aload_n 0, 1) := by decide +kernel
theorem dX10_feed_102 : decode cX10_feed 102 = .ok (.aload_n 0, 1) := by decide +kernel
theorem dX10_feed_103 : decode cX10_feed 103 = .ok (.getfield 357, 3) := by decide +kernel
theorem dX10_feed_106 : decode cX10_feed 106 = .ok (.iconst 1, 1) := by decide +kernel
theorem dX10_feed_107 : decode cX10_feed 107 = .ok (.iadd, 1) := by decide +kernel
theorem dX10_feed_108 : decode cX10_feed 108 = .ok (.putfield 357, 3) := by decide +kernel
theorem dX10_feed_111 : decode cX10_feed 111 = .ok (.iinc 6 1, 3) := by decide +kernel
theorem dX10_feed_114 : decode cX10_feed 114 = .ok (.goto (-91), 3) := by decide +kernel
theorem dX10_feed_117 : decode cX10_feed 117 = .ok (.aload_n 0, 1) := by decide +kernel
theorem dX10_feed_118 : decode cX10_feed 118 = .ok (.getfield 357, 3) := by decide +kernel
theorem dX10_feed_121 : decode cX10_feed 121 = .ok (.ireturn, 1) := by decide +kernel
theorem hyX10_feed : yX10_feed.cls ≠ "java/lang/invoke/MethodHandle" ∧ yX10_feed.cls ≠ "java/lang/invoke/VarHandle" ∧ (parseMethodDescriptor yX10_feed.desc).map (fun d => d.parameters.length) = some 5 := ⟨by decide +kernel, by decide +kernel, by decide +kernel⟩
def jX10_feed_76_L23 (σ : zS) (x0 : Nat) (x1 : Int32) (x2 : Int32) (x3 : Int32) (x4 : Int32) (x5 : Int32) (x6 : Int32) (y0 : Int32) : Option ((zS × Int32) ⊕ zS) :=
  (zgR 9 14 σ x0).bind fun v3 => (zgI 9 15 σ x0).bind fun v4 => (zsB σ v3 v4 ((y0 >>> ((24 - (8 * (x6 - x6 / 4 * 4))) &&& 31) : Int32).toInt8.toInt32)).bind fun σ5 => (zgI 9 15 σ5 x0).bind fun v6 => (zpI 9 15 σ5 x0 (v6 + 1)).bind fun σ7 => some (.inl (σ7, x6 + 1))
set_option maxRecDepth 100000 in
set_option maxHeartbeats 4000000 in
theorem wjX10_feed_76_L23 (C : zC p s m args meth c cX10_feed RX10 8 D Ca B En) (hRm : zRm R 0 0 cells slots) (σ : zS) (x0 : Nat) (x1 : Int32) (x2 : Int32) (x3 : Int32) (x4 : Int32) (x5 : Int32) (x6 : Int32) (y0 : Int32) (y : (zS × Int32) ⊕ zS) (hf : jX10_feed_76_L23 σ x0 x1 x2 x3 x4 x5 x6 y0 = some y) (hk : (∀ z : (zS × Int32), y = .inl z → zW p l e R s m args below meth c cells slots Q D Ca B 8 z.1 N 23 [(0, .ref x0), (1, .int x1), (2, .int x2), (3, .int x3), (4, .int x4), (5, .int x5), (6, .int z.2)] []) ∧ (∀ z : zS, y = .inr z → zW p l e R s m args below meth c cells slots Q D Ca B 8 z N 117 [(0, .ref x0)] [])) : zW p l e R s m args below meth c cells slots Q D Ca B 8 σ N 76 [(0, .ref x0), (1, .int x1), (2, .int x2), (3, .int x3), (4, .int x4), (5, .int x5), (6, .int x6)] [.int y0] := by
  unfold jX10_feed_76_L23 at hf
  refine z_istore (lv2 := [(7, .int y0), (0, .ref x0), (1, .int x1), (2, .int x2), (3, .int x3), (4, .int x4), (5, .int x5), (6, .int x6)]) C dX10_feed_76 (by decide) rfl ?_
  refine z_aload_n C dX10_feed_78 rfl 1 rfl ?_
  obtain ⟨v3, hv3, hf⟩ := zbind hf
  refine gf_RX10_40 C hv3 dX10_feed_79 ?_
  refine z_aload_n C dX10_feed_82 rfl 1 rfl ?_
  obtain ⟨v4, hv4, hf⟩ := zbind hf
  refine gf_RX10_357 C hv4 dX10_feed_83 ?_
  refine z_iload C dX10_feed_86 0 rfl ?_
  refine z_bipush C 24 dX10_feed_88 (by decide) ?_
  refine z_bipush C 8 dX10_feed_90 (by decide) ?_
  refine z_iload C dX10_feed_92 7 rfl ?_
  refine z_iconst C 4 dX10_feed_94 (by decide) ?_
  refine z_irem C dX10_feed_95 (by decide) ?_
  refine z_imul C dX10_feed_96 ?_
  refine z_isub C dX10_feed_97 ?_
  refine z_ishr C dX10_feed_98 ?_
  refine z_i2b C dX10_feed_99 ?_
  obtain ⟨σ5, hσ5, hf⟩ := zbind hf
  refine z_sB C hσ5 dX10_feed_100 ?_
  refine z_aload_n C dX10_feed_101 rfl 1 rfl ?_
  refine z_aload_n C dX10_feed_102 rfl 1 rfl ?_
  obtain ⟨v6, hv6, hf⟩ := zbind hf
  refine gf_RX10_357 C hv6 dX10_feed_103 ?_
  refine z_iconst C 1 dX10_feed_106 (by decide) ?_
  refine z_iadd C dX10_feed_107 ?_
  obtain ⟨σ7, hσ7, hf⟩ := zbind hf
  refine gp_RX10_357 C hσ7 dX10_feed_108 ?_
  refine z_iinc (lv2 := [(6, .int (x6 + 1)), (7, .int y0), (0, .ref x0), (1, .int x1), (2, .int x2), (3, .int x3), (4, .int x4), (5, .int x5)]) C (x6 + 1) dX10_feed_111 7 rfl rfl (by decide) rfl ?_
  refine z_goto C 23 dX10_feed_114 (by decide) ?_
  cases hf
  refine z_sub [2, 3, 4, 5, 6, 7, 0] rfl ?_
  exact hk.1 _ rfl

def sX10_feed_23b (x0 : Nat) (x1 : Int32) (x2 : Int32) (x3 : Int32) (x4 : Int32) (x5 : Int32) (σ : zS) (u6 : Int32) : Option ((zS × Int32) ⊕ zS) :=
  (if 20 ≤ u6 then some (.inr σ) else (if 4 ≤ u6 then (if 8 ≤ u6 then (if 12 ≤ u6 then (if 16 ≤ u6 then jX10_feed_76_L23 σ x0 x1 x2 x3 x4 x5 u6 x5 else jX10_feed_76_L23 σ x0 x1 x2 x3 x4 x5 u6 x4) else jX10_feed_76_L23 σ x0 x1 x2 x3 x4 x5 u6 x3) else jX10_feed_76_L23 σ x0 x1 x2 x3 x4 x5 u6 x2) else jX10_feed_76_L23 σ x0 x1 x2 x3 x4 x5 u6 x1))
def sX10_feed_23 (x0 : Nat) (x1 : Int32) (x2 : Int32) (x3 : Int32) (x4 : Int32) (x5 : Int32) (z : (zS × Int32)) : Option ((zS × Int32) ⊕ zS) := sX10_feed_23b x0 x1 x2 x3 x4 x5 z.1 z.2
set_option maxRecDepth 100000 in
set_option maxHeartbeats 4000000 in
theorem wsX10_feed_23b (C : zC p s m args meth c cX10_feed RX10 8 D Ca B En) (hRm : zRm R 0 0 cells slots) (x0 : Nat) (x1 : Int32) (x2 : Int32) (x3 : Int32) (x4 : Int32) (x5 : Int32) (σ : zS) (u6 : Int32) (y : (zS × Int32) ⊕ zS) (hf : sX10_feed_23b x0 x1 x2 x3 x4 x5 σ u6 = some y) (hk : (∀ z : (zS × Int32), y = .inl z → zW p l e R s m args below meth c cells slots Q D Ca B 8 z.1 N 23 [(0, .ref x0), (1, .int x1), (2, .int x2), (3, .int x3), (4, .int x4), (5, .int x5), (6, .int z.2)] []) ∧ (∀ z : zS, y = .inr z → zW p l e R s m args below meth c cells slots Q D Ca B 8 z N 117 [(0, .ref x0)] [])) : zW p l e R s m args below meth c cells slots Q D Ca B 8 σ N 23 [(0, .ref x0), (1, .int x1), (2, .int x2), (3, .int x3), (4, .int x4), (5, .int x5), (6, .int u6)] [] := by
  unfold sX10_feed_23b at hf
  refine z_iload C dX10_feed_23 6 rfl ?_
  refine z_bipush C 20 dX10_feed_25 (by decide) ?_
  refine z_icmp_ge C 117 dX10_feed_27 (by decide) (fun q12 => ?_) (fun q12 => ?_)
  · rw [if_pos q12] at hf
    cases hf
    refine z_sub [0] rfl ?_
    exact hk.2 _ rfl
  · rw [if_neg q12] at hf
    refine z_iload C dX10_feed_30 6 rfl ?_
    refine z_iconst C 4 dX10_feed_32 (by decide) ?_
    refine z_icmp_ge C 40 dX10_feed_33 (by decide) (fun q11 => ?_) (fun q11 => ?_)
    · rw [if_pos q11] at hf
      refine z_iload C dX10_feed_40 6 rfl ?_
      refine z_bipush C 8 dX10_feed_42 (by decide) ?_
      refine z_icmp_ge C 51 dX10_feed_44 (by decide) (fun q10 => ?_) (fun q10 => ?_)
      · rw [if_pos q10] at hf
        refine z_iload C dX10_feed_51 6 rfl ?_
        refine z_bipush C 12 dX10_feed_53 (by decide) ?_
        refine z_icmp_ge C 62 dX10_feed_55 (by decide) (fun q9 => ?_) (fun q9 => ?_)
        · rw [if_pos q9] at hf
          refine z_iload C dX10_feed_62 6 rfl ?_
          refine z_bipush C 16 dX10_feed_64 (by decide) ?_
          refine z_icmp_ge C 74 dX10_feed_66 (by decide) (fun q8 => ?_) (fun q8 => ?_)
          · rw [if_pos q8] at hf
            refine z_iload C dX10_feed_74 5 rfl ?_
            refine z_sub [0, 1, 2, 3, 4, 5, 6] rfl ?_
            exact wjX10_feed_76_L23 C hRm _ _ _ _ _ _ _ _ _ _ hf hk
          · rw [if_neg q8] at hf
            refine z_iload C dX10_feed_69 4 rfl ?_
            refine z_goto C 76 dX10_feed_71 (by decide) ?_
            refine z_sub [0, 1, 2, 3, 4, 5, 6] rfl ?_
            exact wjX10_feed_76_L23 C hRm _ _ _ _ _ _ _ _ _ _ hf hk
        · rw [if_neg q9] at hf
          refine z_iload_n C dX10_feed_58 rfl 3 rfl ?_
          refine z_goto C 76 dX10_feed_59 (by decide) ?_
          refine z_sub [0, 1, 2, 3, 4, 5, 6] rfl ?_
          exact wjX10_feed_76_L23 C hRm _ _ _ _ _ _ _ _ _ _ hf hk
      · rw [if_neg q10] at hf
        refine z_iload_n C dX10_feed_47 rfl 2 rfl ?_
        refine z_goto C 76 dX10_feed_48 (by decide) ?_
        refine z_sub [0, 1, 2, 3, 4, 5, 6] rfl ?_
        exact wjX10_feed_76_L23 C hRm _ _ _ _ _ _ _ _ _ _ hf hk
    · rw [if_neg q11] at hf
      refine z_iload_n C dX10_feed_36 rfl 1 rfl ?_
      refine z_goto C 76 dX10_feed_37 (by decide) ?_
      refine z_sub [0, 1, 2, 3, 4, 5, 6] rfl ?_
      exact wjX10_feed_76_L23 C hRm _ _ _ _ _ _ _ _ _ _ hf hk

theorem wsX10_feed_23 (C : zC p s m args meth c cX10_feed RX10 8 D Ca B En) (hRm : zRm R 0 0 cells slots) (x0 : Nat) (x1 : Int32) (x2 : Int32) (x3 : Int32) (x4 : Int32) (x5 : Int32) (n : Nat) (z : (zS × Int32)) (x : zS) (hf : zloop (sX10_feed_23 x0 x1 x2 x3 x4 x5) n z = some x) (hk : (∀ o : zS, x = o → zW p l e R s m args below meth c cells slots Q D Ca B 8 o N 117 [(0, .ref x0)] [])) : zW p l e R s m args below meth c cells slots Q D Ca B 8 z.1 N 23 [(0, .ref x0), (1, .int x1), (2, .int x2), (3, .int x3), (4, .int x4), (5, .int x5), (6, .int z.2)] [] := by
  refine zloop_W (P := fun z : (zS × Int32) => zW p l e R s m args below meth c cells slots Q D Ca B 8 z.1 N 23 [(0, .ref x0), (1, .int x1), (2, .int x2), (3, .int x3), (4, .int x4), (5, .int x5), (6, .int z.2)] []) (K := fun x : zS => (∀ o : zS, x = o → zW p l e R s m args below meth c cells slots Q D Ca B 8 o N 117 [(0, .ref x0)] [])) ?_ n z x hf hk
  intro z y hy h1 h2
  refine wsX10_feed_23b C hRm x0 x1 x2 x3 x4 x5 z.1 z.2 y hy ⟨fun z2 e => h1 z2 e, fun o e => (h2 _ e) o rfl⟩
def fX10_feed (σ : zS) (x0 : Nat) (x1 : Int32) (x2 : Int32) (x3 : Int32) (x4 : Int32) (x5 : Int32) : Option (zS × Int32) :=
  (zpI 9 0 σ x0 0).bind fun σ1 => (zgI 9 15 σ1 x0).bind fun v2 => (if (v2 + 20) ≤ 300 then (zloop (sX10_feed_23 x0 x1 x2 x3 x4 x5) zfuel (σ1, 0)).bind fun o13 => (zgI 9 15 o13 x0).bind fun v14 => some (o13, v14) else some (σ1, (-1)))
set_option maxRecDepth 100000 in
set_option maxHeartbeats 4000000 in
theorem wfX10_feed (C : zC p s m args meth c cX10_feed RX10 8 D Ca B En) (hRm : zRm R 0 0 cells slots) (σ : zS) (x0 : Nat) (x1 : Int32) (x2 : Int32) (x3 : Int32) (x4 : Int32) (x5 : Int32) (τ : zS) (r : Int32) (hf : fX10_feed σ x0 x1 x2 x3 x4 x5 = some (τ, r)) (hq : ∀ (pc : Nat) (lv : List (Nat × Value)), decode cX10_feed pc = .ok (.ireturn, 1) → zW p l e R s m args below meth c cells slots Q D Ca B 8 τ N pc lv [.int r]) : zW p l e R s m args below meth c cells slots Q D Ca B 8 σ N 0 [(0, .ref x0), (1, .int x1), (2, .int x2), (3, .int x3), (4, .int x4), (5, .int x5)] [] := by
  unfold fX10_feed at hf
  refine z_aload_n C dX10_feed_0 rfl 0 rfl ?_
  refine z_iconst C 0 dX10_feed_1 (by decide) ?_
  obtain ⟨σ1, hσ1, hf⟩ := zbind hf
  refine gp_RX10_92 C hσ1 dX10_feed_2 ?_
  refine z_aload_n C dX10_feed_5 rfl 0 rfl ?_
  obtain ⟨v2, hv2, hf⟩ := zbind hf
  refine gf_RX10_357 C hv2 dX10_feed_6 ?_
  refine z_bipush C 20 dX10_feed_9 (by decide) ?_
  refine z_iadd C dX10_feed_11 ?_
  refine z_sipush C 300 dX10_feed_12 (by decide) ?_
  refine z_icmp_le C 20 dX10_feed_15 (by decide) (fun q15 => ?_) (fun q15 => ?_)
  · rw [if_pos q15] at hf
    refine z_iconst C 0 dX10_feed_20 (by decide) ?_
    refine z_istore (lv2 := [(6, .int 0), (0, .ref x0), (1, .int x1), (2, .int x2), (3, .int x3), (4, .int x4), (5, .int x5)]) C dX10_feed_21 (by decide) rfl ?_
    obtain ⟨o13, ho13, hf⟩ := zbind hf
    refine z_sub [1, 2, 3, 4, 5, 6, 0] rfl ?_
    refine wsX10_feed_23 C hRm _ _ _ _ _ _ zfuel (σ1, 0) o13 ho13 ?_
    intro z9 e9
    subst e9
    refine z_aload_n C dX10_feed_117 rfl 0 rfl ?_
    obtain ⟨v14, hv14, hf⟩ := zbind hf
    refine gf_RX10_357 C hv14 dX10_feed_118 ?_
    cases hf
    exact hq _ _ dX10_feed_121
  · rw [if_neg q15] at hf
    refine z_iconst C (-1) dX10_feed_18 (by decide) ?_
    cases hf
    exact hq _ _ dX10_feed_19

theorem mX10_feed (l : Launch) (D : va_G) (Ca : Nat → ClassId) (B : Nat) (En : State → Prop) (hE : zEk B En) (σ : zS) (N : Nat) (x0 : Nat) (x1 : Int32) (x2 : Int32) (x3 : Int32) (x4 : Int32) (x5 : Int32) (X : zS × Int32) (hf : fX10_feed σ x0 x1 x2 x3 x4 x5 = some X) : zMi l D Ca B En yX10_feed cX10_feed 8 (Option.some Jvm.ClassFile.FieldType.int) 0 0 [.ref x0, .int x1, .int x2, .int x3, .int x4, .int x5] σ N X.1 X.2 :=
  zMet_i (own := RX10) hE (by decide +kernel) rfl (Nat.le_of_ble_eq_true rfl) (fun p e s m args below meth c C hr hRm => wfX10_feed C hRm σ x0 x1 x2 x3 x4 x5 X.1 X.2 hf (fun pc lv hd => zfin_i C hr hd))
theorem dX10_truncate_0 : decode cX10_truncate 0 = .ok (.aload_n 0, 1) := by decide +kernel
theorem dX10_truncate_1 : decode cX10_truncate 1 = .ok (.iconst 0, 1) := by decide +kernel
theorem dX10_truncate_2 : decode cX10_truncate 2 = .ok (.putfield 92, 3) := by decide +kernel
theorem dX10_truncate_5 : decode cX10_truncate 5 = .ok (.iload_n 1, 1) := by decide +kernel
theorem dX10_truncate_6 : decode cX10_truncate 6 = .ok (.i2l, 1) := by decide +kernel
theorem dX10_truncate_7 : decode cX10_truncate 7 = .ok (.lconst 0, 1) := by decide +kernel
theorem dX10_truncate_8 : decode cX10_truncate 8 = .ok (.aload_n 0, 1) := by decide +kernel
theorem dX10_truncate_9 : decode cX10_truncate 9 = .ok (.getfield 357, 3) := by decide +kernel
theorem dX10_truncate_12 : decode cX10_truncate 12 = .ok (.i2l, 1) := by decide +kernel
theorem dX10_truncate_13 : decode cX10_truncate 13 = .ok (.invokestatic 247, 3) := by decide +kernel
theorem dX10_truncate_16 : decode cX10_truncate 16 = .ok (.ifCond .ne 5, 3) := by decide +kernel
theorem dX10_truncate_19 : decode cX10_truncate 19 = .ok (.iconst 0, 1) := by decide +kernel
theorem dX10_truncate_20 : decode cX10_truncate 20 = .ok (.ireturn, 1) := by decide +kernel
theorem dX10_truncate_21 : decode cX10_truncate 21 = .ok (.aload_n 0, 1) := by decide +kernel
theorem dX10_truncate_22 : decode cX10_truncate 22 = .ok (.iload_n 1, 1) := by decide +kernel
theorem dX10_truncate_23 : decode cX10_truncate 23 = .ok (.putfield 357, 3) := by decide +kernel
theorem dX10_truncate_26 : decode cX10_truncate 26 = .ok (.iconst 1, 1) := by decide +kernel
theorem dX10_truncate_27 : decode cX10_truncate 27 = .ok (.ireturn, 1) := by decide +kernel
theorem hyX10_truncate : yX10_truncate.cls ≠ "java/lang/invoke/MethodHandle" ∧ yX10_truncate.cls ≠ "java/lang/invoke/VarHandle" ∧ (parseMethodDescriptor yX10_truncate.desc).map (fun d => d.parameters.length) = some 1 := ⟨by decide +kernel, by decide +kernel, by decide +kernel⟩
def fX10_truncate (σ : zS) (x0 : Nat) (x1 : Int32) : Option (zS × Int32) :=
  (zpI 9 0 σ x0 0).bind fun σ1 => (zgI 9 15 σ1 x0).bind fun v2 => (fX10_isIn σ1 x1.toInt64 0 v2.toInt64).bind fun c3 => (if c3.2 = 0 then zrZ c3.1 0 else (zpI 9 15 c3.1 x0 x1).bind fun σ4 => zrZ σ4 1)
set_option maxRecDepth 100000 in
set_option maxHeartbeats 4000000 in
theorem wfX10_truncate (C : zC p s m args meth c cX10_truncate RX10 2 D Ca B En) (hRm : zRm R 1 25 cells slots) (σ : zS) (x0 : Nat) (x1 : Int32) (τ : zS) (r : Int32) (hf : fX10_truncate σ x0 x1 = some (τ, r)) (hq : ∀ (pc : Nat) (lv : List (Nat × Value)), (r = 0 ∨ r = 1) → decode cX10_truncate pc = .ok (.ireturn, 1) → zW p l e R s m args below meth c cells slots Q D Ca B 2 τ N pc lv [.int r]) : zW p l e R s m args below meth c cells slots Q D Ca B 2 σ N 0 [(0, .ref x0), (1, .int x1)] [] := by
  unfold fX10_truncate at hf
  refine z_aload_n C dX10_truncate_0 rfl 0 rfl ?_
  refine z_iconst C 0 dX10_truncate_1 (by decide) ?_
  obtain ⟨σ1, hσ1, hf⟩ := zbind hf
  refine gp_RX10_92 C hσ1 dX10_truncate_2 ?_
  refine z_iload_n C dX10_truncate_5 rfl 1 rfl ?_
  refine z_i2l C dX10_truncate_6 ?_
  refine z_lconst C 0 dX10_truncate_7 (by decide) ?_
  refine z_aload_n C dX10_truncate_8 rfl 0 rfl ?_
  obtain ⟨v2, hv2, hf⟩ := zbind hf
  refine gf_RX10_357 C hv2 dX10_truncate_9 ?_
  refine z_i2l C dX10_truncate_12 ?_
  obtain ⟨c3, hc3, hf⟩ := zbind hf
  refine z_callSi (As := [.long x1.toInt64, .long 0, .long v2.toInt64]) (F0 := 1) (L0 := 25) C (mX10_isIn l D Ca B En C.2.2.2.2.2.2.2.1 σ1 N x1.toInt64 0 v2.toInt64 _ hc3) hRm kw_1392 kw_14 kw_1390 kw_1391 hyX10_isIn (Nat.le_of_ble_eq_true rfl) (Nat.le_of_ble_eq_true rfl) rfl rfl (Nat.le_of_ble_eq_true rfl) dX10_truncate_13 ?_
  refine z_if_ne C 21 dX10_truncate_16 (by decide) (fun q5 => ?_) (fun q5 => ?_)
  · rw [if_neg q5] at hf
    refine z_aload_n C dX10_truncate_21 rfl 0 rfl ?_
    refine z_iload_n C dX10_truncate_22 rfl 1 rfl ?_
    obtain ⟨σ4, hσ4, hf⟩ := zbind hf
    refine gp_RX10_357 C hσ4 dX10_truncate_23 ?_
    refine z_iconst C 1 dX10_truncate_26 (by decide) ?_
    obtain ⟨e9, b9⟩ := zrZ_ok hf
    cases e9
    exact hq _ _ b9 dX10_truncate_27
  · rw [if_pos q5] at hf
    refine z_iconst C 0 dX10_truncate_19 (by decide) ?_
    obtain ⟨e9, b9⟩ := zrZ_ok hf
    cases e9
    exact hq _ _ b9 dX10_truncate_20

theorem mX10_truncate (l : Launch) (D : va_G) (Ca : Nat → ClassId) (B : Nat) (En : State → Prop) (hE : zEk B En) (σ : zS) (N : Nat) (x0 : Nat) (x1 : Int32) (X : zS × Int32) (hf : fX10_truncate σ x0 x1 = some X) : zMi l D Ca B En yX10_truncate cX10_truncate 2 (Option.some Jvm.ClassFile.FieldType.boolean) 1 25 [.ref x0, .int x1] σ N X.1 X.2 :=
  zMet_i (own := RX10) hE (by decide +kernel) rfl (Nat.le_of_ble_eq_true rfl) (fun p e s m args below meth c C hr hRm => wfX10_truncate C hRm σ x0 x1 X.1 X.2 hf (fun pc lv hb hd => zfin_z C hb hr hd))
theorem dX10_here_0 : decode cX10_here 0 = .ok (.iload_n 1, 1) := by decide +kernel
theorem dX10_here_1 : decode cX10_here 1 = .ok (.aload_n 0, 1) := by decide +kernel
theorem dX10_here_2 : decode cX10_here 2 = .ok (.getfield 360, 3) := by decide +kernel
theorem dX10_here_5 : decode cX10_here 5 = .ok (.if_icmp .ge 16, 3) := by decide +kernel
theorem dX10_here_8 : decode cX10_here 8 = .ok (.aload_n 0, 1) := by decide +kernel
theorem dX10_here_9 : decode cX10_here 9 = .ok (.getfield 40, 3) := by decide +kernel
theorem dX10_here_12 : decode cX10_here 12 = .ok (.iload_n 1, 1) := by decide +kernel
theorem dX10_here_13 : decode cX10_here 13 = .ok (.baload, 1) := by decide +kernel
theorem dX10_here_14 : decode cX10_here 14 = .ok (.sipush 255, 3) := by decide +kernel
theorem dX10_here_17 : decode cX10_here 17 = .ok (.iand, 1) := by decide +kernel
theorem dX10_here_18 : decode cX10_here 18 = .ok (.goto 4, 3) := by decide +kernel
theorem dX10_here_21 : decode cX10_here 21 = .ok (.iconst (-1), 1) := by decide +kernel
theorem dX10_here_22 : decode cX10_here 22 = .ok (.ireturn, 1) := by decide +kernel
theorem hyX10_here : yX10_here.cls ≠ "java/lang/invoke/MethodHandle" ∧ yX10_here.cls ≠ "java/lang/invoke/VarHandle" ∧ (parseMethodDescriptor yX10_here.desc).map (fun d => d.parameters.length) = some 1 := ⟨by decide +kernel, by decide +kernel, by decide +kernel⟩
def fX10_here (σ : zS) (x0 : Nat) (x1 : Int32) : Option (zS × Int32) :=
  (zgI 9 16 σ x0).bind fun v1 => (if v1 ≤ x1 then some (σ, (-1)) else (zgR 9 14 σ x0).bind fun v2 => (zaB σ v2 x1).bind fun v3 => some (σ, v3 &&& 255))
set_option maxRecDepth 100000 in
set_option maxHeartbeats 4000000 in
theorem wfX10_here (C : zC p s m args meth c cX10_here RX10 2 D Ca B En) (hRm : zRm R 0 0 cells slots) (σ : zS) (x0 : Nat) (x1 : Int32) (τ : zS) (r : Int32) (hf : fX10_here σ x0 x1 = some (τ, r)) (hq : ∀ (pc : Nat) (lv : List (Nat × Value)), decode cX10_here pc = .ok (.ireturn, 1) → zW p l e R s m args below meth c cells slots Q D Ca B 2 τ N pc lv [.int r]) : zW p l e R s m args below meth c cells slots Q D Ca B 2 σ N 0 [(0, .ref x0), (1, .int x1)] [] := by
  unfold fX10_here at hf
  refine z_iload_n C dX10_here_0 rfl 1 rfl ?_
  refine z_aload_n C dX10_here_1 rfl 0 rfl ?_
  obtain ⟨v1, hv1, hf⟩ := zbind hf
  refine gf_RX10_360 C hv1 dX10_here_2 ?_
  refine z_icmp_ge C 21 dX10_here_5 (by decide) (fun q4 => ?_) (fun q4 => ?_)
  · rw [if_pos q4] at hf
    refine z_iconst C (-1) dX10_here_21 (by decide) ?_
    cases hf
    exact hq _ _ dX10_here_22
  · rw [if_neg q4] at hf
    refine z_aload_n C dX10_here_8 rfl 0 rfl ?_
    obtain ⟨v2, hv2, hf⟩ := zbind hf
    refine gf_RX10_40 C hv2 dX10_here_9 ?_
    refine z_iload_n C dX10_here_12 rfl 1 rfl ?_
    obtain ⟨v3, hv3, hf⟩ := zbind hf
    refine z_aB C hv3 dX10_here_13 ?_
    refine z_sipush C 255 dX10_here_14 (by decide) ?_
    refine z_iand C dX10_here_17 ?_
    refine z_goto C 22 dX10_here_18 (by decide) ?_
    cases hf
    exact hq _ _ dX10_here_22

theorem mX10_here (l : Launch) (D : va_G) (Ca : Nat → ClassId) (B : Nat) (En : State → Prop) (hE : zEk B En) (σ : zS) (N : Nat) (x0 : Nat) (x1 : Int32) (X : zS × Int32) (hf : fX10_here σ x0 x1 = some X) : zMi l D Ca B En yX10_here cX10_here 2 (Option.some Jvm.ClassFile.FieldType.int) 0 0 [.ref x0, .int x1] σ N X.1 X.2 :=
  zMet_i (own := RX10) hE (by decide +kernel) rfl (Nat.le_of_ble_eq_true rfl) (fun p e s m args below meth c C hr hRm => wfX10_here C hRm σ x0 x1 X.1 X.2 hf (fun pc lv hd => zfin_i C hr hd))
theorem dX10_wordHere_0 : decode cX10_wordHere 0 = .ok (.iconst 0, 1) := by decide +kernel
theorem dX10_wordHere_1 : decode cX10_wordHere 1 = .ok (.istore_n 1, 1) := by decide +kernel
theorem dX10_wordHere_2 : decode cX10_wordHere 2 = .ok (.iconst 0, 1) := by decide +kernel
theorem dX10_wordHere_3 : decode cX10_wordHere 3 = .ok (.istore_n 2, 1) := by decide +kernel
theorem dX10_wordHere_4 : decode cX10_wordHere 4 = .ok (.iload_n 2, 1) := by decide +kernel
theorem dX10_wordHere_5 : decode cX10_wordHere 5 = .ok (.ldc_w 392, 3) := by decide +kernel
theorem dX10_wordHere_8 : decode cX10_wordHere 8 = .ok (.invokevirtual 394, 3) := by decide +kernel
theorem dX10_wordHere_11 : decode cX10_wordHere 11 = .ok (.if_icmp .ge 121, 3) := by decide +kernel
theorem dX10_wordHere_14 : decode cX10_wordHere 14 = .ok (.iconst 0, 1) := by decide +kernel
theorem dX10_wordHere_15 : decode cX10_wordHere 15 = .ok (.istore_n 3, 1) := by decide +kernel
theorem dX10_wordHere_16 : decode cX10_wordHere 16 = .ok (.ldc_w 392, 3) := by decide +kernel
theorem dX10_wordHere_19 : decode cX10_wordHere 19 = .ok (.iload_n 2, 1) := by decide +kernel
theorem dX10_wordHere_20 : decode cX10_wordHere 20 = .ok (.iload_n 3, 1) := by decide +kernel
theorem dX10_wordHere_21 : decode cX10_wordHere 21 = .ok (.iadd, 1) := by decide +kernel
theorem dX10_wordHere_22 : decode cX10_wordHere 22 = .ok (.invokevirtual 398, 3) := by decide +kernel
theorem dX10_wordHere_25 : decode cX10_wordHere 25 = .ok (.bipush 32, 2) := by decide +kernel
theorem dX10_wordHere_27 : decode cX10_wordHere 27 = .ok (.if_icmp .eq 46, 3) := by decide +kernel
theorem dX10_wordHere_30 : decode cX10_wordHere 30 = .ok (.aload_n 0, 1) := by decide +kernel
theorem dX10_wordHere_31 : decode cX10_wordHere 31 = .ok (.getfield 369, 3) := by decide +kernel
theorem dX10_wordHere_34 : decode cX10_wordHere 34 = .ok (.iload_n 3, 1) := by decide +kernel
theorem dX10_wordHere_35 : decode cX10_wordHere 35 = .ok (.iadd, 1) := by decide +kernel
theorem dX10_wordHere_36 : decode cX10_wordHere 36 = .ok (.aload_n 0, 1) := by decide +kernel
theorem dX10_wordHere_37 : decode cX10_wordHere 37 = .ok (.getfield 363, 3) := by decide +kernel
theorem dX10_wordHere_40 : decode cX10_wordHere 40 = .ok (.if_icmp .ge 33, 3) := by decide +kernel
theorem dX10_wordHere_43 : decode cX10_wordHere 43 = .ok (.aload_n 0, 1) := by decide +kernel
theorem dX10_wordHere_44 : decode cX10_wordHere 44 = .ok (.getfield 40, 3) := by decide +kernel
theorem dX10_wordHere_47 : decode cX10_wordHere 47 = .ok (.aload_n 0, 1) := by decide +kernel
theorem dX10_wordHere_48 : decode cX10_wordHere 48 = .ok (.getfield 369, 3) := by decide +kernel
theorem dX10_wordHere_51 : decode cX10_wordHere 51 = .ok (.iload_n 3, 1) := by decide +kernel
theorem dX10_wordHere_52 : decode cX10_wordHere 52 = .ok (.iadd, 1) := by decide +kernel
theorem dX10_wordHere_53 : decode cX10_wordHere 53 = .ok (.baload, 1) := by decide +kernel
theorem dX10_wordHere_54 : decode cX10_wordHere 54 = .ok (.ldc_w 392, 3) := by decide +kernel
theorem dX10_wordHere_57 : decode cX10_wordHere 57 = .ok (.iload_n 2, 1) := by decide +kernel
theorem dX10_wordHere_58 : decode cX10_wordHere 58 = .ok (.iload_n 3, 1) := by decide +kernel
theorem dX10_wordHere_59 : decode cX10_wordHere 59 = .ok (.iadd, 1) := by decide +kernel
theorem dX10_wordHere_60 : decode cX10_wordHere 60 = .ok (.invokevirtual 398, 3) := by decide +kernel
theorem dX10_wordHere_63 : decode cX10_wordHere 63 = .ok (.if_icmp .ne 10, 3) := by decide +kernel
theorem dX10_wordHere_66 : decode cX10_wordHere 66 = .ok (.iload_n 3, 1) := by decide +kernel
theorem dX10_wordHere_67 : decode cX10_wordHere 67 = .ok (.iconst 1, 1) := by decide +kernel
theorem dX10_wordHere_68 : decode cX10_wordHere 68 = .ok (.iadd, 1) := by decide +kernel
theorem dX10_wordHere_69 : decode cX10_wordHere 69 = .ok (.istore_n 3, 1) := by decide +kernel
theorem dX10_wordHere_70 : decode cX10_wordHere 70 = .ok (.goto (-54), 3) := by decide +kernel
theorem dX10_wordHere_73 : decode cX10_wordHere 73 = .ok (.ldc_w 392, 3) := by decide +kernel
theorem dX10_wordHere_76 : decode cX10_wordHere 76 = .ok (.iload_n 2, 1) := by decide +kernel
theorem dX10_wordHere_77 : decode cX10_wordHere 77 = .ok (.iload_n 3, 1) := by decide +kernel
theorem dX10_wordHere_78 : decode cX10_wordHere 78 = .ok (.iadd, 1) := by decide +kernel
theorem dX10_wordHere_79 : decode cX10_wordHere 79 = .ok (.invokevirtual 398, 3) := by decide +kernel
theorem dX10_wordHere_82 : decode cX10_wordHere 82 = .ok (.bipush 32, 2) := by decide +kernel
theorem dX10_wordHere_84 : decode cX10_wordHere 84 = .ok (.if_icmp .ne 18, 3) := by decide +kernel
theorem dX10_wordHere_87 : decode cX10_wordHere 87 = .ok (.aload_n 0, 1) := by decide +kernel
theorem dX10_wordHere_88 : decode cX10_wordHere 88 = .ok (.getfield 369, 3) := by decide +kernel
theorem dX10_wordHere_91 : decode cX10_wordHere 91 = .ok (.iload_n 3, 1) := by decide +kernel
theorem dX10_wordHere_92 : decode cX10_wordHere 92 = .ok (.iadd, 1) := by decide +kernel
theorem dX10_wordHere_93 : decode cX10_wordHere 93 = .ok (.aload_n 0, 1) := by decide +kernel
theorem dX10_wordHere_94 : decode cX10_wordHere 94 = .ok (.getfield 363, 3) := by decide +kernel
theorem dX10_wordHere_97 : decode cX10_wordHere 97 = .ok (.if_icmp .ne 5, 3) := by decide +kernel
theorem dX10_wordHere_100 : decode cX10_wordHere 100 = .ok (.iload_n 1, 1) := by decide +kernel
theorem dX10_wordHere_101 : decode cX10_wordHere 101 = .ok (.ireturn, 1) := by decide +kernel
theorem dX10_wordHere_102 : decode cX10_wordHere 102 = .ok (.ldc_w 392, 3) := by decide +kernel
theorem dX10_wordHere_105 : decode cX10_wordHere 105 = .ok (.iload_n 2, 1) := by decide +kernel
theorem dX10_wordHere_106 : decode cX10_wordHere 106 = .ok (.invokevirtual 398, 3) := by decide +kernel
theorem dX10_wordHere_109 : decode cX10_wordHere 109 = .ok (.bipush 32, 2) := by decide +kernel
theorem dX10_wordHere_111 : decode cX10_wordHere 111 = .ok (.if_icmp .eq 10, 3) := by decide +kernel
theorem dX10_wordHere_114 : decode cX10_wordHere 114 = .ok (.iload_n 2, 1) := by decide +kernel
theorem dX10_wordHere_115 : decode cX10_wordHere 115 = .ok (.iconst 1, 1) := by decide +kernel
theorem dX10_wordHere_116 : decode cX10_wordHere 116 = .ok (.iadd, 1) := by decide +kernel
theorem dX10_wordHere_117 : decode cX10_wordHere 117 = .ok (.istore_n 2, 1) := by decide +kernel
theorem dX10_wordHere_118 : decode cX10_wordHere 118 = .ok (.goto (-16), 3) := by decide +kernel
theorem dX10_wordHere_121 : decode cX10_wordHere 121 = .ok (.iload_n 2, 1) := by decide +kernel
theorem dX10_wordHere_122 : decode cX10_wordHere 122 = .ok (.iconst 1, 1) := by decide +kernel
theorem dX10_wordHere_123 : decode cX10_wordHere 123 = .ok (.iadd, 1) := by decide +kernel
theorem dX10_wordHere_124 : decode cX10_wordHere 124 = .ok (.istore_n 2, 1) := by decide +kernel
theorem dX10_wordHere_125 : decode cX10_wordHere 125 = .ok (.iload_n 1, 1) := by decide +kernel
theorem dX10_wordHere_126 : decode cX10_wordHere 126 = .ok (.iconst 1, 1) := by decide +kernel
theorem dX10_wordHere_127 : decode cX10_wordHere 127 = .ok (.iadd, 1) := by decide +kernel
theorem dX10_wordHere_128 : decode cX10_wordHere 128 = .ok (.istore_n 1, 1) := by decide +kernel
theorem dX10_wordHere_129 : decode cX10_wordHere 129 = .ok (.goto (-125), 3) := by decide +kernel
theorem dX10_wordHere_132 : decode cX10_wordHere 132 = .ok (.iconst (-1), 1) := by decide +kernel
theorem dX10_wordHere_133 : decode cX10_wordHere 133 = .ok (.ireturn, 1) := by decide +kernel
theorem hyX10_wordHere : yX10_wordHere.cls ≠ "java/lang/invoke/MethodHandle" ∧ yX10_wordHere.cls ≠ "java/lang/invoke/VarHandle" ∧ (parseMethodDescriptor yX10_wordHere.desc).map (fun d => d.parameters.length) = some 0 := ⟨by decide +kernel, by decide +kernel, by decide +kernel⟩
def sX10_wordHere_16b (x0 : Nat) (x1 : Int32) (x2 : Int32) (σ : zS) (u3 : Int32) : Option ((zS × Int32) ⊕ (zS × Int32)) :=
  (zsck 9 (fJ0_charAt_5068e σ 9 (x2 + u3))).bind fun c2 => (if c2.2 = 32 then some (.inr (c2.1, u3)) else (zgI 9 18 c2.1 x0).bind fun v3 => (zgI 9 17 c2.1 x0).bind fun v4 => (if v4 ≤ (v3 + u3) then some (.inr (c2.1, u3)) else (zgR 9 14 c2.1 x0).bind fun v5 => (zgI 9 18 c2.1 x0).bind fun v6 => (zaB c2.1 v5 (v6 + u3)).bind fun v7 => (zsck 9 (fJ0_charAt_5068e c2.1 9 (x2 + u3))).bind fun c8 => (if v7 = c8.2 then some (.inl (c8.1, u3 + 1)) else some (.inr (c8.1, u3)))))
def sX10_wordHere_16 (x0 : Nat) (x1 : Int32) (x2 : Int32) (z : (zS × Int32)) : Option ((zS × Int32) ⊕ (zS × Int32)) := sX10_wordHere_16b x0 x1 x2 z.1 z.2
set_option maxRecDepth 100000 in
set_option maxHeartbeats 4000000 in
theorem wsX10_wordHere_16b (C : zC p s m args meth c cX10_wordHere RX10 4 D Ca B En) (hRm : zRm R 4 85 cells slots) (ev : zEv) (hZ : ∀ U : State, En U → zEnv ev B U) (x0 : Nat) (x1 : Int32) (x2 : Int32) (σ : zS) (u3 : Int32) (y : (zS × Int32) ⊕ (zS × Int32)) (hf : sX10_wordHere_16b x0 x1 x2 σ u3 = some y) (hk : (∀ z : (zS × Int32), y = .inl z → zW p l e R s m args below meth c cells slots Q D Ca B 4 z.1 N 16 [(0, .ref x0), (1, .int x1), (2, .int x2), (3, .int z.2)] []) ∧ (∀ z : (zS × Int32), y = .inr z → zW p l e R s m args below meth c cells slots Q D Ca B 4 z.1 N 73 [(0, .ref x0), (1, .int x1), (2, .int x2), (3, .int z.2)] [])) : zW p l e R s m args below meth c cells slots Q D Ca B 4 σ N 16 [(0, .ref x0), (1, .int x1), (2, .int x2), (3, .int u3)] [] := by
  unfold sX10_wordHere_16b at hf
  refine z_ldSw C ev hZ dX10_wordHere_16 ?_
  refine z_iload_n C dX10_wordHere_19 rfl 2 rfl ?_
  refine z_iload_n C dX10_wordHere_20 rfl 3 rfl ?_
  refine z_iadd C dX10_wordHere_21 ?_
  obtain ⟨c2, hc2, hf⟩ := zbind hf
  obtain ⟨kc2, hc2⟩ := zsck_ok hc2
  refine z_callTi (As := [.int (x2 + u3)]) (F0 := 4) (L0 := 85) C ev hZ (mJ0_charAt_5068e l D Ca B En C.2.2.2.2.2.2.2.1 ev hZ σ N 9 (x2 + u3) _ hc2) hRm kc2 rfl kw_544 kw_15 kw_1845 kw_542 kw_543 hyJ0_charAt_5068e (Nat.le_of_ble_eq_true rfl) (Nat.le_of_ble_eq_true rfl) rfl rfl (Nat.le_of_ble_eq_true rfl) dX10_wordHere_22 ?_
  refine z_bipush C 32 dX10_wordHere_25 (by decide) ?_
  refine z_icmp_eq C 73 dX10_wordHere_27 (by decide) (fun q11 => ?_) (fun q11 => ?_)
  · rw [if_pos q11] at hf
    cases hf
    refine z_sub [0, 1, 2, 3] rfl ?_
    exact hk.2 _ rfl
  · rw [if_neg q11] at hf
    refine z_aload_n C dX10_wordHere_30 rfl 0 rfl ?_
    obtain ⟨v3, hv3, hf⟩ := zbind hf
    refine gf_RX10_369 C hv3 dX10_wordHere_31 ?_
    refine z_iload_n C dX10_wordHere_34 rfl 3 rfl ?_
    refine z_iadd C dX10_wordHere_35 ?_
    refine z_aload_n C dX10_wordHere_36 rfl 0 rfl ?_
    obtain ⟨v4, hv4, hf⟩ := zbind hf
    refine gf_RX10_363 C hv4 dX10_wordHere_37 ?_
    refine z_icmp_ge C 73 dX10_wordHere_40 (by decide) (fun q10 => ?_) (fun q10 => ?_)
    · rw [if_pos q10] at hf
      cases hf
      refine z_sub [0, 1, 2, 3] rfl ?_
      exact hk.2 _ rfl
    · rw [if_neg q10] at hf
      refine z_aload_n C dX10_wordHere_43 rfl 0 rfl ?_
      obtain ⟨v5, hv5, hf⟩ := zbind hf
      refine gf_RX10_40 C hv5 dX10_wordHere_44 ?_
      refine z_aload_n C dX10_wordHere_47 rfl 0 rfl ?_
      obtain ⟨v6, hv6, hf⟩ := zbind hf
      refine gf_RX10_369 C hv6 dX10_wordHere_48 ?_
      refine z_iload_n C dX10_wordHere_51 rfl 3 rfl ?_
      refine z_iadd C dX10_wordHere_52 ?_
      obtain ⟨v7, hv7, hf⟩ := zbind hf
      refine z_aB C hv7 dX10_wordHere_53 ?_
      refine z_ldSw C ev hZ dX10_wordHere_54 ?_
      refine z_iload_n C dX10_wordHere_57 rfl 2 rfl ?_
      refine z_iload_n C dX10_wordHere_58 rfl 3 rfl ?_
      refine z_iadd C dX10_wordHere_59 ?_
      obtain ⟨c8, hc8, hf⟩ := zbind hf
      obtain ⟨kc8, hc8⟩ := zsck_ok hc8
      refine z_callTi (As := [.int (x2 + u3)]) (F0 := 4) (L0 := 85) C ev hZ (mJ0_charAt_5068e l D Ca B En C.2.2.2.2.2.2.2.1 ev hZ c2.1 N 9 (x2 + u3) _ hc8) hRm kc8 rfl kw_544 kw_15 kw_1845 kw_542 kw_543 hyJ0_charAt_5068e (Nat.le_of_ble_eq_true rfl) (Nat.le_of_ble_eq_true rfl) rfl rfl (Nat.le_of_ble_eq_true rfl) dX10_wordHere_60 ?_
      refine z_icmp_ne C 73 dX10_wordHere_63 (by decide) (fun q9 => ?_) (fun q9 => ?_)
      · rw [if_neg q9] at hf
        cases hf
        refine z_sub [0, 1, 2, 3] rfl ?_
        exact hk.2 _ rfl
      · rw [if_pos q9] at hf
        refine z_iload_n C dX10_wordHere_66 rfl 3 rfl ?_
        refine z_iconst C 1 dX10_wordHere_67 (by decide) ?_
        refine z_iadd C dX10_wordHere_68 ?_
        refine z_istore_n (lv2 := [(3, .int (u3 + 1)), (0, .ref x0), (1, .int x1), (2, .int x2)]) C dX10_wordHere_69 rfl (by decide) rfl ?_
        refine z_goto C 16 dX10_wordHere_70 (by decide) ?_
        cases hf
        refine z_sub [1, 2, 3, 0] rfl ?_
        exact hk.1 _ rfl

theorem wsX10_wordHere_16 (C : zC p s m args meth c cX10_wordHere RX10 4 D Ca B En) (hRm : zRm R 4 85 cells slots) (ev : zEv) (hZ : ∀ U : State, En U → zEnv ev B U) (x0 : Nat) (x1 : Int32) (x2 : Int32) (n : Nat) (z : (zS × Int32)) (x : (zS × Int32)) (hf : zloop (sX10_wordHere_16 x0 x1 x2) n z = some x) (hk : (∀ o : (zS × Int32), x = o → zW p l e R s m args below meth c cells slots Q D Ca B 4 o.1 N 73 [(0, .ref x0), (1, .int x1), (2, .int x2), (3, .int o.2)] [])) : zW p l e R s m args below meth c cells slots Q D Ca B 4 z.1 N 16 [(0, .ref x0), (1, .int x1), (2, .int x2), (3, .int z.2)] [] := by
  refine zloop_W (P := fun z : (zS × Int32) => zW p l e R s m args below meth c cells slots Q D Ca B 4 z.1 N 16 [(0, .ref x0), (1, .int x1), (2, .int x2), (3, .int z.2)] []) (K := fun x : (zS × Int32) => (∀ o : (zS × Int32), x = o → zW p l e R s m args below meth c cells slots Q D Ca B 4 o.1 N 73 [(0, .ref x0), (1, .int x1), (2, .int x2), (3, .int o.2)] [])) ?_ n z x hf hk
  intro z y hy h1 h2
  refine wsX10_wordHere_16b C hRm ev hZ x0 x1 x2 z.1 z.2 y hy ⟨fun z2 e => h1 z2 e, fun o e => (h2 _ e) o rfl⟩
def sX10_wordHere_102b (x0 : Nat) (x1 : Int32) (σ : zS) (u2 : Int32) : Option ((zS × Int32) ⊕ (zS × Int32)) :=
  (zsck 9 (fJ0_charAt_5068e σ 9 u2)).bind fun c14 => (if c14.2 = 32 then some (.inr (c14.1, u2)) else some (.inl (c14.1, u2 + 1)))
def sX10_wordHere_102 (x0 : Nat) (x1 : Int32) (z : (zS × Int32)) : Option ((zS × Int32) ⊕ (zS × Int32)) := sX10_wordHere_102b x0 x1 z.1 z.2
set_option maxRecDepth 100000 in
set_option maxHeartbeats 4000000 in
theorem wsX10_wordHere_102b (C : zC p s m args meth c cX10_wordHere RX10 4 D Ca B En) (hRm : zRm R 4 85 cells slots) (ev : zEv) (hZ : ∀ U : State, En U → zEnv ev B U) (x0 : Nat) (x1 : Int32) (σ : zS) (u2 : Int32) (y : (zS × Int32) ⊕ (zS × Int32)) (hf : sX10_wordHere_102b x0 x1 σ u2 = some y) (hk : (∀ z : (zS × Int32), y = .inl z → zW p l e R s m args below meth c cells slots Q D Ca B 4 z.1 N 102 [(0, .ref x0), (1, .int x1), (2, .int z.2)] []) ∧ (∀ z : (zS × Int32), y = .inr z → zW p l e R s m args below meth c cells slots Q D Ca B 4 z.1 N 121 [(0, .ref x0), (1, .int x1), (2, .int z.2)] [])) : zW p l e R s m args below meth c cells slots Q D Ca B 4 σ N 102 [(0, .ref x0), (1, .int x1), (2, .int u2)] [] := by
  unfold sX10_wordHere_102b at hf
  refine z_ldSw C ev hZ dX10_wordHere_102 ?_
  refine z_iload_n C dX10_wordHere_105 rfl 2 rfl ?_
  obtain ⟨c14, hc14, hf⟩ := zbind hf
  obtain ⟨kc14, hc14⟩ := zsck_ok hc14
  refine z_callTi (As := [.int u2]) (F0 := 4) (L0 := 85) C ev hZ (mJ0_charAt_5068e l D Ca B En C.2.2.2.2.2.2.2.1 ev hZ σ N 9 u2 _ hc14) hRm kc14 rfl kw_544 kw_15 kw_1845 kw_542 kw_543 hyJ0_charAt_5068e (Nat.le_of_ble_eq_true rfl) (Nat.le_of_ble_eq_true rfl) rfl rfl (Nat.le_of_ble_eq_true rfl) dX10_wordHere_106 ?_
  refine z_bipush C 32 dX10_wordHere_109 (by decide) ?_
  refine z_icmp_eq C 121 dX10_wordHere_111 (by decide) (fun q15 => ?_) (fun q15 => ?_)
  · rw [if_pos q15] at hf
    cases hf
    refine z_sub [0, 1, 2] rfl ?_
    exact hk.2 _ rfl
  · rw [if_neg q15] at hf
    refine z_iload_n C dX10_wordHere_114 rfl 2 rfl ?_
    refine z_iconst C 1 dX10_wordHere_115 (by decide) ?_
    refine z_iadd C dX10_wordHere_116 ?_
    refine z_istore_n (lv2 := [(2, .int (u2 + 1)), (0, .ref x0), (1, .int x1)]) C dX10_wordHere_117 rfl (by decide) rfl ?_
    refine z_goto C 102 dX10_wordHere_118 (by decide) ?_
    cases hf
    refine z_sub [1, 2, 0] rfl ?_
    exact hk.1 _ rfl

theorem wsX10_wordHere_102 (C : zC p s m args meth c cX10_wordHere RX10 4 D Ca B En) (hRm : zRm R 4 85 cells slots) (ev : zEv) (hZ : ∀ U : State, En U → zEnv ev B U) (x0 : Nat) (x1 : Int32) (n : Nat) (z : (zS × Int32)) (x : (zS × Int32)) (hf : zloop (sX10_wordHere_102 x0 x1) n z = some x) (hk : (∀ o : (zS × Int32), x = o → zW p l e R s m args below meth c cells slots Q D Ca B 4 o.1 N 121 [(0, .ref x0), (1, .int x1), (2, .int o.2)] [])) : zW p l e R s m args below meth c cells slots Q D Ca B 4 z.1 N 102 [(0, .ref x0), (1, .int x1), (2, .int z.2)] [] := by
  refine zloop_W (P := fun z : (zS × Int32) => zW p l e R s m args below meth c cells slots Q D Ca B 4 z.1 N 102 [(0, .ref x0), (1, .int x1), (2, .int z.2)] []) (K := fun x : (zS × Int32) => (∀ o : (zS × Int32), x = o → zW p l e R s m args below meth c cells slots Q D Ca B 4 o.1 N 121 [(0, .ref x0), (1, .int x1), (2, .int o.2)] [])) ?_ n z x hf hk
  intro z y hy h1 h2
  refine wsX10_wordHere_102b C hRm ev hZ x0 x1 z.1 z.2 y hy ⟨fun z2 e => h1 z2 e, fun o e => (h2 _ e) o rfl⟩
def jX10_wordHere_102_L4 (σ : zS) (x0 : Nat) (x1 : Int32) (x2 : Int32)  : Option ((zS × Int32 × Int32) ⊕ ((zS × Int32) ⊕ zS)) :=
  (zloop (sX10_wordHere_102 x0 x1) zfuel (σ, x2)).bind fun o16 => some (.inl (o16.1, x1 + 1, o16.2 + 1))
set_option maxRecDepth 100000 in
set_option maxHeartbeats 4000000 in
theorem wjX10_wordHere_102_L4 (C : zC p s m args meth c cX10_wordHere RX10 4 D Ca B En) (hRm : zRm R 4 85 cells slots) (ev : zEv) (hZ : ∀ U : State, En U → zEnv ev B U) (σ : zS) (x0 : Nat) (x1 : Int32) (x2 : Int32)  (y : (zS × Int32 × Int32) ⊕ ((zS × Int32) ⊕ zS)) (hf : jX10_wordHere_102_L4 σ x0 x1 x2  = some y) (hk : (∀ z : (zS × Int32 × Int32), y = .inl z → zW p l e R s m args below meth c cells slots Q D Ca B 4 z.1 N 4 [(0, .ref x0), (1, .int z.2.1), (2, .int z.2.2)] []) ∧ (∀ z : (zS × Int32), y = .inr (.inl z) → zW p l e R s m args below meth c cells slots Q D Ca B 4 z.1 N 100 [(1, .int z.2)] []) ∧ (∀ z : zS, y = .inr (.inr z) → zW p l e R s m args below meth c cells slots Q D Ca B 4 z N 132 [] [])) : zW p l e R s m args below meth c cells slots Q D Ca B 4 σ N 102 [(0, .ref x0), (1, .int x1), (2, .int x2)] [] := by
  unfold jX10_wordHere_102_L4 at hf
  obtain ⟨o16, ho16, hf⟩ := zbind hf
  refine z_sub [0, 1, 2] rfl ?_
  refine wsX10_wordHere_102 C hRm ev hZ _ _ zfuel (σ, x2) o16 ho16 ?_
  intro z9 e9
  subst e9
  refine z_iload_n C dX10_wordHere_121 rfl 2 rfl ?_
  refine z_iconst C 1 dX10_wordHere_122 (by decide) ?_
  refine z_iadd C dX10_wordHere_123 ?_
  refine z_istore_n (lv2 := [(2, .int (o16.2 + 1)), (0, .ref x0), (1, .int x1)]) C dX10_wordHere_124 rfl (by decide) rfl ?_
  refine z_iload_n C dX10_wordHere_125 rfl 2 rfl ?_
  refine z_iconst C 1 dX10_wordHere_126 (by decide) ?_
  refine z_iadd C dX10_wordHere_127 ?_
  refine z_istore_n (lv2 := [(1, .int (x1 + 1)), (2, .int (o16.2 + 1)), (0, .ref x0)]) C dX10_wordHere_128 rfl (by decide) rfl ?_
  refine z_goto C 4 dX10_wordHere_129 (by decide) ?_
  cases hf
  refine z_sub [2, 0, 1] rfl ?_
  exact hk.1 _ rfl

def jX10_wordHere_73_L4 (σ : zS) (x0 : Nat) (x1 : Int32) (x2 : Int32) (x3 : Int32)  : Option ((zS × Int32 × Int32) ⊕ ((zS × Int32) ⊕ zS)) :=
  (zsck 9 (fJ0_charAt_5068e σ 9 (x2 + x3))).bind fun c13 => (if c13.2 = 32 then (zgI 9 18 c13.1 x0).bind fun v17 => (zgI 9 17 c13.1 x0).bind fun v18 => (if (v17 + x3) = v18 then some (.inr (.inl (c13.1, x1))) else jX10_wordHere_102_L4 c13.1 x0 x1 x2) else jX10_wordHere_102_L4 c13.1 x0 x1 x2)
set_option maxRecDepth 100000 in
set_option maxHeartbeats 4000000 in
theorem wjX10_wordHere_73_L4 (C : zC p s m args meth c cX10_wordHere RX10 4 D Ca B En) (hRm : zRm R 4 85 cells slots) (ev : zEv) (hZ : ∀ U : State, En U → zEnv ev B U) (σ : zS) (x0 : Nat) (x1 : Int32) (x2 : Int32) (x3 : Int32)  (y : (zS × Int32 × Int32) ⊕ ((zS × Int32) ⊕ zS)) (hf : jX10_wordHere_73_L4 σ x0 x1 x2 x3  = some y) (hk : (∀ z : (zS × Int32 × Int32), y = .inl z → zW p l e R s m args below meth c cells slots Q D Ca B 4 z.1 N 4 [(0, .ref x0), (1, .int z.2.1), (2, .int z.2.2)] []) ∧ (∀ z : (zS × Int32), y = .inr (.inl z) → zW p l e R s m args below meth c cells slots Q D Ca B 4 z.1 N 100 [(1, .int z.2)] []) ∧ (∀ z : zS, y = .inr (.inr z) → zW p l e R s m args below meth c cells slots Q D Ca B 4 z N 132 [] [])) : zW p l e R s m args below meth c cells slots Q D Ca B 4 σ N 73 [(0, .ref x0), (1, .int x1), (2, .int x2), (3, .int x3)] [] := by
  unfold jX10_wordHere_73_L4 at hf
  refine z_ldSw C ev hZ dX10_wordHere_73 ?_
  refine z_iload_n C dX10_wordHere_76 rfl 2 rfl ?_
  refine z_iload_n C dX10_wordHere_77 rfl 3 rfl ?_
  refine z_iadd C dX10_wordHere_78 ?_
  obtain ⟨c13, hc13, hf⟩ := zbind hf
  obtain ⟨kc13, hc13⟩ := zsck_ok hc13
  refine z_callTi (As := [.int (x2 + x3)]) (F0 := 4) (L0 := 85) C ev hZ (mJ0_charAt_5068e l D Ca B En C.2.2.2.2.2.2.2.1 ev hZ σ N 9 (x2 + x3) _ hc13) hRm kc13 rfl kw_544 kw_15 kw_1845 kw_542 kw_543 hyJ0_charAt_5068e (Nat.le_of_ble_eq_true rfl) (Nat.le_of_ble_eq_true rfl) rfl rfl (Nat.le_of_ble_eq_true rfl) dX10_wordHere_79 ?_
  refine z_bipush C 32 dX10_wordHere_82 (by decide) ?_
  refine z_icmp_ne C 102 dX10_wordHere_84 (by decide) (fun q20 => ?_) (fun q20 => ?_)
  · rw [if_neg q20] at hf
    refine z_sub [0, 1, 2] rfl ?_
    exact wjX10_wordHere_102_L4 C hRm ev hZ _ _ _ _  _ hf hk
  · rw [if_pos q20] at hf
    refine z_aload_n C dX10_wordHere_87 rfl 0 rfl ?_
    obtain ⟨v17, hv17, hf⟩ := zbind hf
    refine gf_RX10_369 C hv17 dX10_wordHere_88 ?_
    refine z_iload_n C dX10_wordHere_91 rfl 3 rfl ?_
    refine z_iadd C dX10_wordHere_92 ?_
    refine z_aload_n C dX10_wordHere_93 rfl 0 rfl ?_
    obtain ⟨v18, hv18, hf⟩ := zbind hf
    refine gf_RX10_363 C hv18 dX10_wordHere_94 ?_
    refine z_icmp_ne C 102 dX10_wordHere_97 (by decide) (fun q19 => ?_) (fun q19 => ?_)
    · rw [if_neg q19] at hf
      refine z_sub [0, 1, 2] rfl ?_
      exact wjX10_wordHere_102_L4 C hRm ev hZ _ _ _ _  _ hf hk
    · rw [if_pos q19] at hf
      cases hf
      refine z_sub [1] rfl ?_
      exact hk.2.1 _ rfl

def sX10_wordHere_4b (x0 : Nat) (σ : zS) (u1 : Int32) (u2 : Int32) : Option ((zS × Int32 × Int32) ⊕ ((zS × Int32) ⊕ zS)) :=
  (zsck 9 (fJ0_length_8abf5 σ 9 )).bind fun c1 => (if c1.2 ≤ u2 then some (.inr (.inr c1.1)) else (zloop (sX10_wordHere_16 x0 u1 u2) zfuel (c1.1, 0)).bind fun o12 => jX10_wordHere_73_L4 o12.1 x0 u1 u2 o12.2)
def sX10_wordHere_4 (x0 : Nat) (z : (zS × Int32 × Int32)) : Option ((zS × Int32 × Int32) ⊕ ((zS × Int32) ⊕ zS)) := sX10_wordHere_4b x0 z.1 z.2.1 z.2.2
set_option maxRecDepth 100000 in
set_option maxHeartbeats 4000000 in
theorem wsX10_wordHere_4b (C : zC p s m args meth c cX10_wordHere RX10 4 D Ca B En) (hRm : zRm R 4 85 cells slots) (ev : zEv) (hZ : ∀ U : State, En U → zEnv ev B U) (x0 : Nat) (σ : zS) (u1 : Int32) (u2 : Int32) (y : (zS × Int32 × Int32) ⊕ ((zS × Int32) ⊕ zS)) (hf : sX10_wordHere_4b x0 σ u1 u2 = some y) (hk : (∀ z : (zS × Int32 × Int32), y = .inl z → zW p l e R s m args below meth c cells slots Q D Ca B 4 z.1 N 4 [(0, .ref x0), (1, .int z.2.1), (2, .int z.2.2)] []) ∧ (∀ z : (zS × Int32), y = .inr (.inl z) → zW p l e R s m args below meth c cells slots Q D Ca B 4 z.1 N 100 [(1, .int z.2)] []) ∧ (∀ z : zS, y = .inr (.inr z) → zW p l e R s m args below meth c cells slots Q D Ca B 4 z N 132 [] [])) : zW p l e R s m args below meth c cells slots Q D Ca B 4 σ N 4 [(0, .ref x0), (1, .int u1), (2, .int u2)] [] := by
  unfold sX10_wordHere_4b at hf
  refine z_iload_n C dX10_wordHere_4 rfl 2 rfl ?_
  refine z_ldSw C ev hZ dX10_wordHere_5 ?_
  obtain ⟨c1, hc1, hf⟩ := zbind hf
  obtain ⟨kc1, hc1⟩ := zsck_ok hc1
  refine z_callTi (As := []) (F0 := 4) (L0 := 85) C ev hZ (mJ0_length_8abf5 l D Ca B En C.2.2.2.2.2.2.2.1 ev hZ σ N 9  _ hc1) hRm kc1 rfl kw_534 kw_15 kw_1844 kw_532 kw_533 hyJ0_length_8abf5 (Nat.le_of_ble_eq_true rfl) (Nat.le_of_ble_eq_true rfl) rfl rfl (Nat.le_of_ble_eq_true rfl) dX10_wordHere_8 ?_
  refine z_icmp_ge C 132 dX10_wordHere_11 (by decide) (fun q21 => ?_) (fun q21 => ?_)
  · rw [if_pos q21] at hf
    cases hf
    refine z_sub [] rfl ?_
    exact hk.2.2 _ rfl
  · rw [if_neg q21] at hf
    refine z_iconst C 0 dX10_wordHere_14 (by decide) ?_
    refine z_istore_n (lv2 := [(3, .int 0), (0, .ref x0), (1, .int u1), (2, .int u2)]) C dX10_wordHere_15 rfl (by decide) rfl ?_
    obtain ⟨o12, ho12, hf⟩ := zbind hf
    refine z_sub [1, 2, 3, 0] rfl ?_
    refine wsX10_wordHere_16 C hRm ev hZ _ _ _ zfuel (c1.1, 0) o12 ho12 ?_
    intro z9 e9
    subst e9
    refine z_sub [0, 1, 2, 3] rfl ?_
    exact wjX10_wordHere_73_L4 C hRm ev hZ _ _ _ _ _  _ hf hk

theorem wsX10_wordHere_4 (C : zC p s m args meth c cX10_wordHere RX10 4 D Ca B En) (hRm : zRm R 4 85 cells slots) (ev : zEv) (hZ : ∀ U : State, En U → zEnv ev B U) (x0 : Nat) (n : Nat) (z : (zS × Int32 × Int32)) (x : ((zS × Int32) ⊕ zS)) (hf : zloop (sX10_wordHere_4 x0) n z = some x) (hk : (∀ o : (zS × Int32), x = (.inl o) → zW p l e R s m args below meth c cells slots Q D Ca B 4 o.1 N 100 [(1, .int o.2)] []) ∧ (∀ o : zS, x = (.inr o) → zW p l e R s m args below meth c cells slots Q D Ca B 4 o N 132 [] [])) : zW p l e R s m args below meth c cells slots Q D Ca B 4 z.1 N 4 [(0, .ref x0), (1, .int z.2.1), (2, .int z.2.2)] [] := by
  refine zloop_W (P := fun z : (zS × Int32 × Int32) => zW p l e R s m args below meth c cells slots Q D Ca B 4 z.1 N 4 [(0, .ref x0), (1, .int z.2.1), (2, .int z.2.2)] []) (K := fun x : ((zS × Int32) ⊕ zS) => (∀ o : (zS × Int32), x = (.inl o) → zW p l e R s m args below meth c cells slots Q D Ca B 4 o.1 N 100 [(1, .int o.2)] []) ∧ (∀ o : zS, x = (.inr o) → zW p l e R s m args below meth c cells slots Q D Ca B 4 o N 132 [] [])) ?_ n z x hf hk
  intro z y hy h1 h2
  refine wsX10_wordHere_4b C hRm ev hZ x0 z.1 z.2.1 z.2.2 y hy ⟨fun z2 e => h1 z2 e, fun o e => (h2 _ e).1 o rfl, fun o e => (h2 _ e).2 o rfl⟩
def fX10_wordHere (σ : zS) (x0 : Nat) : Option (zS × Int32) :=
  (zloop (sX10_wordHere_4 x0) zfuel (σ, 0, 0)).bind fun o22 => (match o22 with | (.inl z23) => some (z23.1, z23.2) | (.inr z24) => some (z24, (-1)))
set_option maxRecDepth 100000 in
set_option maxHeartbeats 4000000 in
theorem wfX10_wordHere (C : zC p s m args meth c cX10_wordHere RX10 4 D Ca B En) (hRm : zRm R 4 85 cells slots) (ev : zEv) (hZ : ∀ U : State, En U → zEnv ev B U) (σ : zS) (x0 : Nat) (τ : zS) (r : Int32) (hf : fX10_wordHere σ x0 = some (τ, r)) (hq : ∀ (pc : Nat) (lv : List (Nat × Value)), decode cX10_wordHere pc = .ok (.ireturn, 1) → zW p l e R s m args below meth c cells slots Q D Ca B 4 τ N pc lv [.int r]) : zW p l e R s m args below meth c cells slots Q D Ca B 4 σ N 0 [(0, .ref x0)] [] := by
  unfold fX10_wordHere at hf
  refine z_iconst C 0 dX10_wordHere_0 (by decide) ?_
  refine z_istore_n (lv2 := [(1, .int 0), (0, .ref x0)]) C dX10_wordHere_1 rfl (by decide) rfl ?_
  refine z_iconst C 0 dX10_wordHere_2 (by decide) ?_
  refine z_istore_n (lv2 := [(2, .int 0), (1, .int 0), (0, .ref x0)]) C dX10_wordHere_3 rfl (by decide) rfl ?_
  obtain ⟨o22, ho22, hf⟩ := zbind hf
  refine z_sub [2, 1, 0] rfl ?_
  refine wsX10_wordHere_4 C hRm ev hZ _ zfuel (σ, 0, 0) o22 ho22 ⟨?_, ?_⟩
  · intro z23 e9
    subst e9
    dsimp only at hf
    refine z_iload_n C dX10_wordHere_100 rfl 0 rfl ?_
    cases hf
    exact hq _ _ dX10_wordHere_101
  · intro z24 e9
    subst e9
    dsimp only at hf
    refine z_iconst C (-1) dX10_wordHere_132 (by decide) ?_
    cases hf
    exact hq _ _ dX10_wordHere_133

theorem mX10_wordHere (l : Launch) (D : va_G) (Ca : Nat → ClassId) (B : Nat) (En : State → Prop) (hE : zEk B En) (ev : zEv) (hZ : ∀ U : State, En U → zEnv ev B U) (σ : zS) (N : Nat) (x0 : Nat) (X : zS × Int32) (hf : fX10_wordHere σ x0 = some X) : zMi l D Ca B En yX10_wordHere cX10_wordHere 4 (Option.some Jvm.ClassFile.FieldType.int) 4 85 [.ref x0] σ N X.1 X.2 :=
  zMet_i (own := RX10) hE (by decide +kernel) rfl (Nat.le_of_ble_eq_true rfl) (fun p e s m args below meth c C hr hRm => wfX10_wordHere C hRm ev hZ σ x0 X.1 X.2 hf (fun pc lv hd => zfin_i C hr hd))
theorem dX10_next_0 : decode cX10_next 0 = .ok (.aload_n 0, 1) := by decide +kernel
theorem dX10_next_1 : decode cX10_next 1 = .ok (.aload_n 0, 1) := by decide +kernel
theorem dX10_next_2 : decode cX10_next 2 = .ok (.getfield 363, 3) := by decide +kernel
theorem dX10_next_5 : decode cX10_next 5 = .ok (.invokevirtual 366, 3) := by decide +kernel
theorem dX10_next_8 : decode cX10_next 8 = .ok (.bipush 32, 2) := by decide +kernel
theorem dX10_next_10 : decode cX10_next 10 = .ok (.if_icmp .eq 16, 3) := by decide +kernel
theorem dX10_next_13 : decode cX10_next 13 = .ok (.aload_n 0, 1) := by decide +kernel
theorem dX10_next_14 : decode cX10_next 14 = .ok (.aload_n 0, 1) := by decide +kernel
theorem dX10_next_15 : decode cX10_next 15 = .ok (.getfield 363, 3) := by decide +kernel
theorem dX10_next_18 : decode cX10_next 18 = .ok (.invokevirtual 366, 3) := by decide +kernel
theorem dX10_next_21 : decode cX10_next 21 = .ok (.bipush 10, 2) := by decide +kernel
theorem dX10_next_23 : decode cX10_next 23 = .ok (.if_icmp .ne 16, 3) := by decide +kernel
theorem dX10_next_26 : decode cX10_next 26 = .ok (.aload_n 0, 1) := by decide +kernel
theorem dX10_next_27 : decode cX10_next 27 = .ok (.aload_n 0, 1) := by decide +kernel
theorem dX10_next_28 : decode cX10_next 28 = .ok (.getfield 363, 3) := by decide +kernel
theorem dX10_next_31 : decode cX10_next 31 = .ok (.iconst 1, 1) := by decide +kernel
theorem dX10_next_32 : decode cX10_next 32 = .ok (.iadd, 1) := by decide +kernel
theorem dX10_next_33 : decode cX10_next 33 = .ok (.putfield 363, 3) := by decide +kernel
theorem dX10_next_36 : decode cX10_next 36 = .ok (.goto (-36), 3) := by decide +kernel
theorem dX10_next_39 : decode cX10_next 39 = .ok (.aload_n 0, 1) := by decide +kernel
theorem dX10_next_40 : decode cX10_next 40 = .ok (.aload_n 0, 1) := by decide +kernel
theorem dX10_next_41 : decode cX10_next 41 = .ok (.getfield 363, 3) := by decide +kernel
theorem dX10_next_44 : decode cX10_next 44 = .ok (.putfield 369, 3) := by decide +kernel
theorem dX10_next_47 : decode cX10_next 47 = .ok (.aload_n 0, 1) := by decide +kernel
theorem dX10_next_48 : decode cX10_next 48 = .ok (.aload_n 0, 1) := by decide +kernel
theorem dX10_next_49 : decode cX10_next 49 = .ok (.getfield 363, 3) := by decide +kernel
theorem dX10_next_52 : decode cX10_next 52 = .ok (.invokevirtual 366, 3) := by decide +kernel
theorem dX10_next_55 : decode cX10_next 55 = .ok (.istore_n 1, 1) := by decide +kernel
theorem dX10_next_56 : decode cX10_next 56 = .ok (.iload_n 1, 1) := by decide +kernel
theorem dX10_next_57 : decode cX10_next 57 = .ok (.iconst (-1), 1) := by decide +kernel
theorem dX10_next_58 : decode cX10_next 58 = .ok (.if_icmp .ne 11, 3) := by decide +kernel
theorem dX10_next_61 : decode cX10_next 61 = .ok (.aload_n 0, 1) := by decide +kernel
theorem dX10_next_62 : decode cX10_next 62 = .ok (.iconst 0, 1) := by decide +kernel
theorem dX10_next_63 : decode cX10_next 63 = .ok (.putfield 372, 3) := by decide +kernel
theorem dX10_next_66 : decode cX10_next 66 = .ok (.goto 206, 3) := by decide +kernel
theorem dX10_next_69 : decode cX10_next 69 = .ok (.iload_n 1, 1) := by decide +kernel
theorem dX10_next_70 : decode cX10_next 70 = .ok (.i2l, 1) := by decide +kernel
theorem dX10_next_71 : decode cX10_next 71 = .ok (.ldc2_w 375, 3) := by decide +kernel
theorem dX10_next_74 : decode cX10_next 74 = .ok (.ldc2_w 377, 3) := by decide +kernel
theorem dX10_next_77 : decode cX10_next 77 = .ok (.invokestatic 247, 3) := by decide +kernel
theorem dX10_next_80 : decode cX10_next 80 = .ok (.ifCond .eq 53, 3) := by decide +kernel
theorem dX10_next_83 : decode cX10_next 83 = .ok (.aload_n 0, 1) := by decide +kernel
theorem dX10_next_84 : decode cX10_next 84 = .ok (.aload_n 0, 1) := by decide +kernel
theorem dX10_next_85 : decode cX10_next 85 = .ok (.getfield 363, 3) := by decide +kernel
theorem dX10_next_88 : decode cX10_next 88 = .ok (.invokevirtual 366, 3) := by decide +kernel
theorem dX10_next_91 : decode cX10_next 91 = .ok (.i2l, 1) := by decide +kernel
theorem dX10_next_92 : decode cX10_next 92 = .ok (.ldc2_w 375, 3) := by decide +kernel
theorem dX10_next_95 : decode cX10_next 95 = .ok (.ldc2_w 377, 3) := by decide +kernel
theorem dX10_next_98 : decode cX10_next 98 = .ok (.invokestatic 247, 3) := by decide +kernel
theorem dX10_next_101 : decode cX10_next 101 = .ok (.ifCond .eq 16, 3) := by decide +kernel
theorem dX10_next_104 : decode cX10_next 104 = .ok (.aload_n 0, 1) := by decide +kernel
theorem dX10_next_105 : decode cX10_next 105 = .ok (.aload_n 0, 1) := by decide +kernel
theorem dX10_next_106 : decode cX10_next 106 = .ok (.getfield 363, 3) := by decide +kernel
theorem dX10_next_109 : decode cX10_next 109 = .ok (.iconst 1, 1) := by decide +kernel
theorem dX10_next_110 : decode cX10_next 110 = .ok (.iadd, 1) := by decide +kernel
theorem dX10_next_111 : decode cX10_next 111 = .ok (.putfield 363, 3) := by decide +kernel
theorem dX10_next_114 : decode cX10_next 114 = .ok (.goto (-31), 3) := by decide +kernel
theorem dX10_next_117 : decode cX10_next 117 = .ok (.aload_n 0, 1) := by decide +kernel
theorem dX10_next_118 : decode cX10_next 118 = .ok (.iconst 1, 1) := by decide +kernel
theorem dX10_next_119 : decode cX10_next 119 = .ok (.putfield 372, 3) := by decide +kernel
theorem dX10_next_122 : decode cX10_next 122 = .ok (.aload_n 0, 1) := by decide +kernel
theorem dX10_next_123 : decode cX10_next 123 = .ok (.aload_n 0, 1) := by decide +kernel
theorem dX10_next_124 : decode cX10_next 124 = .ok (.invokevirtual 379, 3) := by decide +kernel
theorem dX10_next_127 : decode cX10_next 127 = .ok (.putfield 382, 3) := by decide +kernel
theorem dX10_next_130 : decode cX10_next 130 = .ok (.goto 142, 3) := by decide +kernel
theorem dX10_next_133 : decode cX10_next 133 = .ok (.iload_n 1, 1) := by decide +kernel
theorem dX10_next_134 : decode cX10_next 134 = .ok (.i2l, 1) := by decide +kernel
theorem dX10_next_135 : decode cX10_next 135 = .ok (.ldc2_w 385, 3) := by decide +kernel
theorem dX10_next_138 : decode cX10_next 138 = .ok (.ldc2_w 387, 3) := by decide +kernel
theorem dX10_next_141 : decode cX10_next 141 = .ok (.invokestatic 247, 3) := by decide +kernel
theorem dX10_next_144 : decode cX10_next 144 = .ok (.ifCond .eq 103, 3) := by decide +kernel
theorem dX10_next_147 : decode cX10_next 147 = .ok (.aload_n 0, 1) := by decide +kernel
theorem dX10_next_148 : decode cX10_next 148 = .ok (.iconst 0, 1) := by decide +kernel
theorem dX10_next_149 : decode cX10_next 149 = .ok (.putfield 389, 3) := by decide +kernel
theorem dX10_next_152 : decode cX10_next 152 = .ok (.aload_n 0, 1) := by decide +kernel
theorem dX10_next_153 : decode cX10_next 153 = .ok (.aload_n 0, 1) := by decide +kernel
theorem dX10_next_154 : decode cX10_next 154 = .ok (.getfield 363, 3) := by decide +kernel
theorem dX10_next_157 : decode cX10_next 157 = .ok (.invokevirtual 366, 3) := by decide +kernel
theorem dX10_next_160 : decode cX10_next 160 = .ok (.i2l, 1) := by decide +kernel
theorem dX10_next_161 : decode cX10_next 161 = .ok (.ldc2_w 385, 3) := by decide +kernel
theorem dX10_next_164 : decode cX10_next 164 = .ok (.ldc2_w 387, 3) := by decide +kernel
theorem dX10_next_167 : decode cX10_next 167 = .ok (.invokestatic 247, 3) := by decide +kernel
theorem dX10_next_170 : decode cX10_next 170 = .ok (.ifCond .eq 52, 3) := by decide +kernel
theorem dX10_next_173 : decode cX10_next 173 = .ok (.aload_n 0, 1) := by decide +kernel
theorem dX10_next_174 : decode cX10_next 174 = .ok (.getfield 363, 3) := by decide +kernel
theorem dX10_next_177 : decode cX10_next 177 = .ok (.aload_n 0, 1) := by decide +kernel
theorem dX10_next_178 : decode cX10_next 178 = .ok (.getfield 369, 3) := by decide +kernel
theorem dX10_next_181 : decode cX10_next 181 = .ok (.isub, 1) := by decide +kernel
theorem dX10_next_182 : decode cX10_next 182 = .ok (.iconst 3, 1) := by decide +kernel
theorem dX10_next_183 : decode cX10_next 183 = .ok (.if_icmp .ge 26, 3) := by decide +kernel
theorem dX10_next_186 : decode cX10_next 186 = .ok (.aload_n 0, 1) := by decide +kernel
theorem dX10_next_187 : decode cX10_next 187 = .ok (.bipush 10, 2) := by decide +kernel
theorem dX10_next_189 : decode cX10_next 189 = .ok (.aload_n 0, 1) := by decide +kernel
theorem dX10_next_190 : decode cX10_next 190 = .ok (.getfield 389, 3) := by decide +kernel
theorem dX10_next_193 : decode cX10_next 193 = .ok (.imul, 1) := by decide +kernel
theorem dX10_next_194 : decode cX10_next 194 = .ok (.aload_n 0, 1) := by decide +kernel
theorem dX10_next_195 : decode cX10_next 195 = .ok (.aload_n 0, 1) := by decide +kernel
theorem dX10_next_196 : decode cX10_next 196 = .ok (.getfield 363, 3) := by decide +kernel
theorem dX10_next_199 : decode cX10_next 199 = .ok (.invokevirtual 366, 3) := by decide +kernel
theorem dX10_next_202 : decode cX10_next 202 = .ok (.iadd, 1) := by decide +kernel
theorem dX10_next_203 : decode cX10_next 203 = .ok (.bipush 48, 2) := by decide +kernel
theorem dX10_next_205 : decode cX10_next 205 = .ok (.isub, 1) := by decide +kernel
theorem dX10_next_206 : decode cX10_next 206 = .ok (.putfield 389, 3) := by decide +kernel
theorem dX10_next_209 : decode cX10_next 209 = .ok (.aload_n 0, 1) := by decide +kernel
theorem dX10_next_210 : decode cX10_next 210 = .ok (.dup, 1) := by decide +kernel
theorem dX10_next_211 : decode cX10_next 211 = .ok (.getfield 363, 3) := by decide +kernel
theorem dX10_next_214 : decode cX10_next 214 = .ok (.iconst 1, 1) := by decide +kernel
theorem dX10_next_215 : decode cX10_next 215 = .ok (.iadd, 1) := by decide +kernel
theorem dX10_next_216 : decode cX10_next 216 = .ok (.putfield 363, 3) := by decide +kernel
theorem dX10_next_219 : decode cX10_next 219 = .ok (.goto (-67), 3) := by decide +kernel
theorem dX10_next_222 : decode cX10_next 222 = .ok (.aload_n 0, 1) := by decide +kernel
theorem dX10_next_223 : decode cX10_next 223 = .ok (.aload_n 0, 1) := by decide +kernel
theorem dX10_next_224 : decode cX10_next 224 = .ok (.getfield 363, 3) := by decide +kernel
theorem dX10_next_227 : decode cX10_next 227 = .ok (.aload_n 0, 1) := by decide +kernel
theorem dX10_next_228 : decode cX10_next 228 = .ok (.getfield 369, 3) := by decide +kernel
theorem dX10_next_231 : decode cX10_next 231 = .ok (.isub, 1) := by decide +kernel
theorem dX10_next_232 : decode cX10_next 232 = .ok (.iconst 3, 1) := by decide +kernel
theorem dX10_next_233 : decode cX10_next 233 = .ok (.if_icmp .le 7, 3) := by decide +kernel
theorem dX10_next_236 : decode cX10_next 236 = .ok (.iconst 4, 1) := by decide +kernel
theorem dX10_next_237 : decode cX10_next 237 = .ok (.goto 4, 3) := by decide +kernel
theorem dX10_next_240 : decode cX10_next 240 = .ok (.iconst 2, 1) := by decide +kernel
theorem dX10_next_241 : decode cX10_next 241 = .ok (.putfield 372, 3) := by decide +kernel
theorem dX10_next_244 : decode cX10_next 244 = .ok (.goto 28, 3) := by decide +kernel
theorem dX10_next_247 : decode cX10_next 247 = .ok (.aload_n 0, 1) := by decide +kernel
theorem dX10_next_248 : decode cX10_next 248 = .ok (.aload_n 0, 1) := by decide +kernel
theorem dX10_next_249 : decode cX10_next 249 = .ok (.getfield 363, 3) := by decide +kernel
theorem dX10_next_252 : decode cX10_next 252 = .ok (.iconst 1, 1) := by decide +kernel
theorem dX10_next_253 : decode cX10_next 253 = .ok (.iadd, 1) := by decide +kernel
theorem dX10_next_254 : decode cX10_next 254 = .ok (.putfield 363, 3) := by decide +kernel
theorem dX10_next_257 : decode cX10_next 257 = .ok (.aload_n 0, 1) := by decide +kernel
theorem dX10_next_258 : decode cX10_next 258 = .ok (.iload_n 1, 1) := by decide +kernel
theorem dX10_next_259 : decode cX10_next 259 = .ok (.bipush 59, 2) := by decide +kernel
theorem dX10_next_261 : decode cX10_next 261 = .ok (.if_icmp .ne 7, 3) := by decide +kernel
theorem dX10_next_264 : decode cX10_next 264 = .ok (.iconst 3, 1) := by decide +kernel
theorem dX10_next_265 : decode cX10_next 265 = .ok (.goto 4, 3) := by decide +kernel
theorem dX10_next_268 : decode cX10_next 268 = .ok (.iconst 4, 1) := by decide +kernel
theorem dX10_next_269 : decode cX10_next 269 = .ok (.putfield 372, 3) := by decide +kernel
theorem dX10_next_272 : decode cX10_next 272 = .ok (.return_, 1) := by decide +kernel
theorem hyX10_next : yX10_next.cls ≠ "java/lang/invoke/MethodHandle" ∧ yX10_next.cls ≠ "java/lang/invoke/VarHandle" ∧ (parseMethodDescriptor yX10_next.desc).map (fun d => d.parameters.length) = some 0 := ⟨by decide +kernel, by decide +kernel, by decide +kernel⟩
def jX10_next_26_L0 (σ : zS) (x0 : Nat)  : Option (zS ⊕ zS) :=
  (zgI 9 17 σ x0).bind fun v3 => (zpI 9 17 σ x0 (v3 + 1)).bind fun σ4 => some (.inl σ4)
set_option maxRecDepth 100000 in
set_option maxHeartbeats 4000000 in
theorem wjX10_next_26_L0 (C : zC p s m args meth c cX10_next RX10 2 D Ca B En) (hRm : zRm R 5 108 cells slots) (ev : zEv) (hZ : ∀ U : State, En U → zEnv ev B U) (σ : zS) (x0 : Nat)  (y : zS ⊕ zS) (hf : jX10_next_26_L0 σ x0  = some y) (hk : (∀ z : zS, y = .inl z → zW p l e R s m args below meth c cells slots Q D Ca B 2 z N 0 [(0, .ref x0)] []) ∧ (∀ z : zS, y = .inr z → zW p l e R s m args below meth c cells slots Q D Ca B 2 z N 39 [(0, .ref x0)] [])) : zW p l e R s m args below meth c cells slots Q D Ca B 2 σ N 26 [(0, .ref x0)] [] := by
  unfold jX10_next_26_L0 at hf
  refine z_aload_n C dX10_next_26 rfl 0 rfl ?_
  refine z_aload_n C dX10_next_27 rfl 0 rfl ?_
  obtain ⟨v3, hv3, hf⟩ := zbind hf
  refine gf_RX10_363 C hv3 dX10_next_28 ?_
  refine z_iconst C 1 dX10_next_31 (by decide) ?_
  refine z_iadd C dX10_next_32 ?_
  obtain ⟨σ4, hσ4, hf⟩ := zbind hf
  refine gp_RX10_363 C hσ4 dX10_next_33 ?_
  refine z_goto C 0 dX10_next_36 (by decide) ?_
  cases hf
  refine z_sub [0] rfl ?_
  exact hk.1 _ rfl

def sX10_next_0b (x0 : Nat) (σ : zS)  : Option (zS ⊕ zS) :=
  (zgI 9 17 σ x0).bind fun v1 => (zck 9 σ x0 (fX10_here σ x0 v1)).bind fun c2 => (if c2.2 = 32 then jX10_next_26_L0 c2.1 x0 else (zgI 9 17 c2.1 x0).bind fun v5 => (zck 9 c2.1 x0 (fX10_here c2.1 x0 v5)).bind fun c6 => (if c6.2 = 10 then jX10_next_26_L0 c6.1 x0 else some (.inr c6.1)))
def sX10_next_0 (x0 : Nat) (z : zS) : Option (zS ⊕ zS) := sX10_next_0b x0 z
set_option maxRecDepth 100000 in
set_option maxHeartbeats 4000000 in
theorem wsX10_next_0b (C : zC p s m args meth c cX10_next RX10 2 D Ca B En) (hRm : zRm R 5 108 cells slots) (ev : zEv) (hZ : ∀ U : State, En U → zEnv ev B U) (x0 : Nat) (σ : zS)  (y : zS ⊕ zS) (hf : sX10_next_0b x0 σ  = some y) (hk : (∀ z : zS, y = .inl z → zW p l e R s m args below meth c cells slots Q D Ca B 2 z N 0 [(0, .ref x0)] []) ∧ (∀ z : zS, y = .inr z → zW p l e R s m args below meth c cells slots Q D Ca B 2 z N 39 [(0, .ref x0)] [])) : zW p l e R s m args below meth c cells slots Q D Ca B 2 σ N 0 [(0, .ref x0)] [] := by
  unfold sX10_next_0b at hf
  refine z_aload_n C dX10_next_0 rfl 0 rfl ?_
  refine z_aload_n C dX10_next_1 rfl 0 rfl ?_
  obtain ⟨v1, hv1, hf⟩ := zbind hf
  refine gf_RX10_363 C hv1 dX10_next_2 ?_
  obtain ⟨c2, hc2, hf⟩ := zbind hf
  obtain ⟨kc2, hc2⟩ := zck_ok hc2
  refine z_callVi (As := [.int v1]) (F0 := 5) (L0 := 108) C (mX10_here l D Ca B En C.2.2.2.2.2.2.2.1 σ N x0 v1 _ hc2) hRm kc2 rfl kw_1836 kw_14 kw_1833 kw_1835 kp_103 hyX10_here (Nat.le_of_ble_eq_true rfl) (Nat.le_of_ble_eq_true rfl) rfl rfl (Nat.le_of_ble_eq_true rfl) dX10_next_5 ?_
  refine z_bipush C 32 dX10_next_8 (by decide) ?_
  refine z_icmp_eq C 26 dX10_next_10 (by decide) (fun q8 => ?_) (fun q8 => ?_)
  · rw [if_pos q8] at hf
    refine z_sub [0] rfl ?_
    exact wjX10_next_26_L0 C hRm ev hZ _ _  _ hf hk
  · rw [if_neg q8] at hf
    refine z_aload_n C dX10_next_13 rfl 0 rfl ?_
    refine z_aload_n C dX10_next_14 rfl 0 rfl ?_
    obtain ⟨v5, hv5, hf⟩ := zbind hf
    refine gf_RX10_363 C hv5 dX10_next_15 ?_
    obtain ⟨c6, hc6, hf⟩ := zbind hf
    obtain ⟨kc6, hc6⟩ := zck_ok hc6
    refine z_callVi (As := [.int v5]) (F0 := 5) (L0 := 108) C (mX10_here l D Ca B En C.2.2.2.2.2.2.2.1 c2.1 N x0 v5 _ hc6) hRm kc6 rfl kw_1836 kw_14 kw_1833 kw_1835 kp_103 hyX10_here (Nat.le_of_ble_eq_true rfl) (Nat.le_of_ble_eq_true rfl) rfl rfl (Nat.le_of_ble_eq_true rfl) dX10_next_18 ?_
    refine z_bipush C 10 dX10_next_21 (by decide) ?_
    refine z_icmp_ne C 39 dX10_next_23 (by decide) (fun q7 => ?_) (fun q7 => ?_)
    · rw [if_neg q7] at hf
      cases hf
      refine z_sub [0] rfl ?_
      exact hk.2 _ rfl
    · rw [if_pos q7] at hf
      refine z_sub [0] rfl ?_
      exact wjX10_next_26_L0 C hRm ev hZ _ _  _ hf hk

theorem wsX10_next_0 (C : zC p s m args meth c cX10_next RX10 2 D Ca B En) (hRm : zRm R 5 108 cells slots) (ev : zEv) (hZ : ∀ U : State, En U → zEnv ev B U) (x0 : Nat) (n : Nat) (z : zS) (x : zS) (hf : zloop (sX10_next_0 x0) n z = some x) (hk : (∀ o : zS, x = o → zW p l e R s m args below meth c cells slots Q D Ca B 2 o N 39 [(0, .ref x0)] [])) : zW p l e R s m args below meth c cells slots Q D Ca B 2 z N 0 [(0, .ref x0)] [] := by
  refine zloop_W (P := fun z : zS => zW p l e R s m args below meth c cells slots Q D Ca B 2 z N 0 [(0, .ref x0)] []) (K := fun x : zS => (∀ o : zS, x = o → zW p l e R s m args below meth c cells slots Q D Ca B 2 o N 39 [(0, .ref x0)] [])) ?_ n z x hf hk
  intro z y hy h1 h2
  refine wsX10_next_0b C hRm ev hZ x0 z y hy ⟨fun z2 e => h1 z2 e, fun o e => (h2 _ e) o rfl⟩
def jX10_next_209_L152 (σ : zS) (x0 : Nat)  : Option (zS ⊕ zS) :=
  (zgI 9 17 σ x0).bind fun v27 => (zpI 9 17 σ x0 (v27 + 1)).bind fun σ28 => some (.inl σ28)
set_option maxRecDepth 100000 in
set_option maxHeartbeats 4000000 in
theorem wjX10_next_209_L152 (C : zC p s m args meth c cX10_next RX10 2 D Ca B En) (hRm : zRm R 5 108 cells slots) (ev : zEv) (hZ : ∀ U : State, En U → zEnv ev B U) (σ : zS) (x0 : Nat)  (y : zS ⊕ zS) (hf : jX10_next_209_L152 σ x0  = some y) (hk : (∀ z : zS, y = .inl z → zW p l e R s m args below meth c cells slots Q D Ca B 2 z N 152 [(0, .ref x0)] []) ∧ (∀ z : zS, y = .inr z → zW p l e R s m args below meth c cells slots Q D Ca B 2 z N 222 [(0, .ref x0)] [])) : zW p l e R s m args below meth c cells slots Q D Ca B 2 σ N 209 [(0, .ref x0)] [] := by
  unfold jX10_next_209_L152 at hf
  refine z_aload_n C dX10_next_209 rfl 0 rfl ?_
  refine z_dup C dX10_next_210 rfl ?_
  obtain ⟨v27, hv27, hf⟩ := zbind hf
  refine gf_RX10_363 C hv27 dX10_next_211 ?_
  refine z_iconst C 1 dX10_next_214 (by decide) ?_
  refine z_iadd C dX10_next_215 ?_
  obtain ⟨σ28, hσ28, hf⟩ := zbind hf
  refine gp_RX10_363 C hσ28 dX10_next_216 ?_
  refine z_goto C 152 dX10_next_219 (by decide) ?_
  cases hf
  refine z_sub [0] rfl ?_
  exact hk.1 _ rfl

def sX10_next_152b (x0 : Nat) (σ : zS)  : Option (zS ⊕ zS) :=
  (zgI 9 17 σ x0).bind fun v22 => (zck 9 σ x0 (fX10_here σ x0 v22)).bind fun c23 => (fX10_isIn c23.1 c23.2.toInt64 48 57).bind fun c24 => (if c24.2 = 0 then some (.inr c24.1) else (zgI 9 17 c24.1 x0).bind fun v25 => (zgI 9 18 c24.1 x0).bind fun v26 => (if 3 ≤ (v25 - v26) then jX10_next_209_L152 c24.1 x0 else (zgI 9 21 c24.1 x0).bind fun v29 => (zgI 9 17 c24.1 x0).bind fun v30 => (zck 9 c24.1 x0 (fX10_here c24.1 x0 v30)).bind fun c31 => (zpI 9 21 c31.1 x0 (((10 * v29) + c31.2) - 48)).bind fun σ32 => jX10_next_209_L152 σ32 x0))
def sX10_next_152 (x0 : Nat) (z : zS) : Option (zS ⊕ zS) := sX10_next_152b x0 z
set_option maxRecDepth 100000 in
set_option maxHeartbeats 4000000 in
theorem wsX10_next_152b (C : zC p s m args meth c cX10_next RX10 2 D Ca B En) (hRm : zRm R 5 108 cells slots) (ev : zEv) (hZ : ∀ U : State, En U → zEnv ev B U) (x0 : Nat) (σ : zS)  (y : zS ⊕ zS) (hf : sX10_next_152b x0 σ  = some y) (hk : (∀ z : zS, y = .inl z → zW p l e R s m args below meth c cells slots Q D Ca B 2 z N 152 [(0, .ref x0)] []) ∧ (∀ z : zS, y = .inr z → zW p l e R s m args below meth c cells slots Q D Ca B 2 z N 222 [(0, .ref x0)] [])) : zW p l e R s m args below meth c cells slots Q D Ca B 2 σ N 152 [(0, .ref x0)] [] := by
  unfold sX10_next_152b at hf
  refine z_aload_n C dX10_next_152 rfl 0 rfl ?_
  refine z_aload_n C dX10_next_153 rfl 0 rfl ?_
  obtain ⟨v22, hv22, hf⟩ := zbind hf
  refine gf_RX10_363 C hv22 dX10_next_154 ?_
  obtain ⟨c23, hc23, hf⟩ := zbind hf
  obtain ⟨kc23, hc23⟩ := zck_ok hc23
  refine z_callVi (As := [.int v22]) (F0 := 5) (L0 := 108) C (mX10_here l D Ca B En C.2.2.2.2.2.2.2.1 σ N x0 v22 _ hc23) hRm kc23 rfl kw_1836 kw_14 kw_1833 kw_1835 kp_103 hyX10_here (Nat.le_of_ble_eq_true rfl) (Nat.le_of_ble_eq_true rfl) rfl rfl (Nat.le_of_ble_eq_true rfl) dX10_next_157 ?_
  refine z_i2l C dX10_next_160 ?_
  refine z_ldc2 C kw_1846 dX10_next_161 ?_
  refine z_ldc2 C kw_1847 dX10_next_164 ?_
  obtain ⟨c24, hc24, hf⟩ := zbind hf
  refine z_callSi (As := [.long c23.2.toInt64, .long 48, .long 57]) (F0 := 5) (L0 := 108) C (mX10_isIn l D Ca B En C.2.2.2.2.2.2.2.1 c23.1 N c23.2.toInt64 48 57 _ hc24) hRm kw_1392 kw_14 kw_1390 kw_1391 hyX10_isIn (Nat.le_of_ble_eq_true rfl) (Nat.le_of_ble_eq_true rfl) rfl rfl (Nat.le_of_ble_eq_true rfl) dX10_next_167 ?_
  refine z_if_eq C 222 dX10_next_170 (by decide) (fun q34 => ?_) (fun q34 => ?_)
  · rw [if_pos q34] at hf
    cases hf
    refine z_sub [0] rfl ?_
    exact hk.2 _ rfl
  · rw [if_neg q34] at hf
    refine z_aload_n C dX10_next_173 rfl 0 rfl ?_
    obtain ⟨v25, hv25, hf⟩ := zbind hf
    refine gf_RX10_363 C hv25 dX10_next_174 ?_
    refine z_aload_n C dX10_next_177 rfl 0 rfl ?_
    obtain ⟨v26, hv26, hf⟩ := zbind hf
    refine gf_RX10_369 C hv26 dX10_next_178 ?_
    refine z_isub C dX10_next_181 ?_
    refine z_iconst C 3 dX10_next_182 (by decide) ?_
    refine z_icmp_ge C 209 dX10_next_183 (by decide) (fun q33 => ?_) (fun q33 => ?_)
    · rw [if_pos q33] at hf
      refine z_sub [0] rfl ?_
      exact wjX10_next_209_L152 C hRm ev hZ _ _  _ hf hk
    · rw [if_neg q33] at hf
      refine z_aload_n C dX10_next_186 rfl 0 rfl ?_
      refine z_bipush C 10 dX10_next_187 (by decide) ?_
      refine z_aload_n C dX10_next_189 rfl 0 rfl ?_
      obtain ⟨v29, hv29, hf⟩ := zbind hf
      refine gf_RX10_389 C hv29 dX10_next_190 ?_
      refine z_imul C dX10_next_193 ?_
      refine z_aload_n C dX10_next_194 rfl 0 rfl ?_
      refine z_aload_n C dX10_next_195 rfl 0 rfl ?_
      obtain ⟨v30, hv30, hf⟩ := zbind hf
      refine gf_RX10_363 C hv30 dX10_next_196 ?_
      obtain ⟨c31, hc31, hf⟩ := zbind hf
      obtain ⟨kc31, hc31⟩ := zck_ok hc31
      refine z_callVi (As := [.int v30]) (F0 := 5) (L0 := 108) C (mX10_here l D Ca B En C.2.2.2.2.2.2.2.1 c24.1 N x0 v30 _ hc31) hRm kc31 rfl kw_1836 kw_14 kw_1833 kw_1835 kp_103 hyX10_here (Nat.le_of_ble_eq_true rfl) (Nat.le_of_ble_eq_true rfl) rfl rfl (Nat.le_of_ble_eq_true rfl) dX10_next_199 ?_
      refine z_iadd C dX10_next_202 ?_
      refine z_bipush C 48 dX10_next_203 (by decide) ?_
      refine z_isub C dX10_next_205 ?_
      obtain ⟨σ32, hσ32, hf⟩ := zbind hf
      refine gp_RX10_389 C hσ32 dX10_next_206 ?_
      refine z_sub [0] rfl ?_
      exact wjX10_next_209_L152 C hRm ev hZ _ _  _ hf hk

theorem wsX10_next_152 (C : zC p s m args meth c cX10_next RX10 2 D Ca B En) (hRm : zRm R 5 108 cells slots) (ev : zEv) (hZ : ∀ U : State, En U → zEnv ev B U) (x0 : Nat) (n : Nat) (z : zS) (x : zS) (hf : zloop (sX10_next_152 x0) n z = some x) (hk : (∀ o : zS, x = o → zW p l e R s m args below meth c cells slots Q D Ca B 2 o N 222 [(0, .ref x0)] [])) : zW p l e R s m args below meth c cells slots Q D Ca B 2 z N 152 [(0, .ref x0)] [] := by
  refine zloop_W (P := fun z : zS => zW p l e R s m args below meth c cells slots Q D Ca B 2 z N 152 [(0, .ref x0)] []) (K := fun x : zS => (∀ o : zS, x = o → zW p l e R s m args below meth c cells slots Q D Ca B 2 o N 222 [(0, .ref x0)] [])) ?_ n z x hf hk
  intro z y hy h1 h2
  refine wsX10_next_152b C hRm ev hZ x0 z y hy ⟨fun z2 e => h1 z2 e, fun o e => (h2 _ e) o rfl⟩
def jX10_next_241 (σ : zS)  (y0 : Int32) (y1 : Nat) : Option zS :=
  (zpI 9 19 σ y1 y0).bind fun σ38 => some σ38
set_option maxRecDepth 100000 in
set_option maxHeartbeats 4000000 in
theorem wjX10_next_241 (C : zC p s m args meth c cX10_next RX10 2 D Ca B En) (hRm : zRm R 5 108 cells slots) (ev : zEv) (hZ : ∀ U : State, En U → zEnv ev B U) (σ : zS)  (y0 : Int32) (y1 : Nat) (τ : zS) (hf : jX10_next_241 σ  y0 y1 = some τ) (hq : ∀ (pc : Nat) (lv : List (Nat × Value)), decode cX10_next pc = .ok (.return_, 1) → zW p l e R s m args below meth c cells slots Q D Ca B 2 τ N pc lv []) : zW p l e R s m args below meth c cells slots Q D Ca B 2 σ N 241 [] [.int y0, .ref y1] := by
  unfold jX10_next_241 at hf
  obtain ⟨σ38, hσ38, hf⟩ := zbind hf
  refine gp_RX10_372 C hσ38 dX10_next_241 ?_
  refine z_goto C 272 dX10_next_244 (by decide) ?_
  cases hf
  exact hq _ _ dX10_next_272

def sX10_next_83b (x0 : Nat) (σ : zS)  : Option (zS ⊕ zS) :=
  (zgI 9 17 σ x0).bind fun v41 => (zck 9 σ x0 (fX10_here σ x0 v41)).bind fun c42 => (fX10_isIn c42.1 c42.2.toInt64 97 122).bind fun c43 => (if c43.2 = 0 then some (.inr c43.1) else (zgI 9 17 c43.1 x0).bind fun v44 => (zpI 9 17 c43.1 x0 (v44 + 1)).bind fun σ45 => some (.inl σ45))
def sX10_next_83 (x0 : Nat) (z : zS) : Option (zS ⊕ zS) := sX10_next_83b x0 z
set_option maxRecDepth 100000 in
set_option maxHeartbeats 4000000 in
theorem wsX10_next_83b (C : zC p s m args meth c cX10_next RX10 2 D Ca B En) (hRm : zRm R 5 108 cells slots) (ev : zEv) (hZ : ∀ U : State, En U → zEnv ev B U) (x0 : Nat) (σ : zS)  (y : zS ⊕ zS) (hf : sX10_next_83b x0 σ  = some y) (hk : (∀ z : zS, y = .inl z → zW p l e R s m args below meth c cells slots Q D Ca B 2 z N 83 [(0, .ref x0)] []) ∧ (∀ z : zS, y = .inr z → zW p l e R s m args below meth c cells slots Q D Ca B 2 z N 117 [(0, .ref x0)] [])) : zW p l e R s m args below meth c cells slots Q D Ca B 2 σ N 83 [(0, .ref x0)] [] := by
  unfold sX10_next_83b at hf
  refine z_aload_n C dX10_next_83 rfl 0 rfl ?_
  refine z_aload_n C dX10_next_84 rfl 0 rfl ?_
  obtain ⟨v41, hv41, hf⟩ := zbind hf
  refine gf_RX10_363 C hv41 dX10_next_85 ?_
  obtain ⟨c42, hc42, hf⟩ := zbind hf
  obtain ⟨kc42, hc42⟩ := zck_ok hc42
  refine z_callVi (As := [.int v41]) (F0 := 5) (L0 := 108) C (mX10_here l D Ca B En C.2.2.2.2.2.2.2.1 σ N x0 v41 _ hc42) hRm kc42 rfl kw_1836 kw_14 kw_1833 kw_1835 kp_103 hyX10_here (Nat.le_of_ble_eq_true rfl) (Nat.le_of_ble_eq_true rfl) rfl rfl (Nat.le_of_ble_eq_true rfl) dX10_next_88 ?_
  refine z_i2l C dX10_next_91 ?_
  refine z_ldc2 C kw_1837 dX10_next_92 ?_
  refine z_ldc2 C kw_1838 dX10_next_95 ?_
  obtain ⟨c43, hc43, hf⟩ := zbind hf
  refine z_callSi (As := [.long c42.2.toInt64, .long 97, .long 122]) (F0 := 5) (L0 := 108) C (mX10_isIn l D Ca B En C.2.2.2.2.2.2.2.1 c42.1 N c42.2.toInt64 97 122 _ hc43) hRm kw_1392 kw_14 kw_1390 kw_1391 hyX10_isIn (Nat.le_of_ble_eq_true rfl) (Nat.le_of_ble_eq_true rfl) rfl rfl (Nat.le_of_ble_eq_true rfl) dX10_next_98 ?_
  refine z_if_eq C 117 dX10_next_101 (by decide) (fun q46 => ?_) (fun q46 => ?_)
  · rw [if_pos q46] at hf
    cases hf
    refine z_sub [0] rfl ?_
    exact hk.2 _ rfl
  · rw [if_neg q46] at hf
    refine z_aload_n C dX10_next_104 rfl 0 rfl ?_
    refine z_aload_n C dX10_next_105 rfl 0 rfl ?_
    obtain ⟨v44, hv44, hf⟩ := zbind hf
    refine gf_RX10_363 C hv44 dX10_next_106 ?_
    refine z_iconst C 1 dX10_next_109 (by decide) ?_
    refine z_iadd C dX10_next_110 ?_
    obtain ⟨σ45, hσ45, hf⟩ := zbind hf
    refine gp_RX10_363 C hσ45 dX10_next_111 ?_
    refine z_goto C 83 dX10_next_114 (by decide) ?_
    cases hf
    refine z_sub [0] rfl ?_
    exact hk.1 _ rfl

theorem wsX10_next_83 (C : zC p s m args meth c cX10_next RX10 2 D Ca B En) (hRm : zRm R 5 108 cells slots) (ev : zEv) (hZ : ∀ U : State, En U → zEnv ev B U) (x0 : Nat) (n : Nat) (z : zS) (x : zS) (hf : zloop (sX10_next_83 x0) n z = some x) (hk : (∀ o : zS, x = o → zW p l e R s m args below meth c cells slots Q D Ca B 2 o N 117 [(0, .ref x0)] [])) : zW p l e R s m args below meth c cells slots Q D Ca B 2 z N 83 [(0, .ref x0)] [] := by
  refine zloop_W (P := fun z : zS => zW p l e R s m args below meth c cells slots Q D Ca B 2 z N 83 [(0, .ref x0)] []) (K := fun x : zS => (∀ o : zS, x = o → zW p l e R s m args below meth c cells slots Q D Ca B 2 o N 117 [(0, .ref x0)] [])) ?_ n z x hf hk
  intro z y hy h1 h2
  refine wsX10_next_83b C hRm ev hZ x0 z y hy ⟨fun z2 e => h1 z2 e, fun o e => (h2 _ e) o rfl⟩
def fX10_next (σ : zS) (x0 : Nat) : Option zS :=
  (zloop (sX10_next_0 x0) zfuel σ).bind fun o9 => (zgI 9 17 o9 x0).bind fun v10 => (zpI 9 18 o9 x0 v10).bind fun σ11 => (zgI 9 17 σ11 x0).bind fun v12 => (zck 9 σ11 x0 (fX10_here σ11 x0 v12)).bind fun c13 => (if c13.2 = ((-1)) then (zpI 9 19 c13.1 x0 0).bind fun σ52 => some σ52 else (fX10_isIn c13.1 c13.2.toInt64 97 122).bind fun c14 => (if c14.2 = 0 then (fX10_isIn c14.1 c13.2.toInt64 48 57).bind fun c15 => (if c15.2 = 0 then (zgI 9 17 c15.1 x0).bind fun v16 => (zpI 9 17 c15.1 x0 (v16 + 1)).bind fun σ17 => (if c13.2 = 59 then (zpI 9 19 σ17 x0 3).bind fun σ19 => some σ19 else (zpI 9 19 σ17 x0 4).bind fun σ18 => some σ18) else (zpI 9 21 c15.1 x0 0).bind fun σ21 => (zloop (sX10_next_152 x0) zfuel σ21).bind fun o35 => (zgI 9 17 o35 x0).bind fun v36 => (zgI 9 18 o35 x0).bind fun v37 => (if (v36 - v37) ≤ 3 then jX10_next_241 o35  2 x0 else jX10_next_241 o35  4 x0)) else (zloop (sX10_next_83 x0) zfuel c14.1).bind fun o47 => (zpI 9 19 o47 x0 1).bind fun σ48 => (zck 9 σ48 x0 (fX10_wordHere σ48 x0 )).bind fun c49 => (zpI 9 20 c49.1 x0 c49.2).bind fun σ50 => some σ50))
set_option maxRecDepth 100000 in
set_option maxHeartbeats 4000000 in
theorem wfX10_next (C : zC p s m args meth c cX10_next RX10 2 D Ca B En) (hRm : zRm R 5 108 cells slots) (ev : zEv) (hZ : ∀ U : State, En U → zEnv ev B U) (σ : zS) (x0 : Nat) (τ : zS) (hf : fX10_next σ x0 = some τ) (hq : ∀ (pc : Nat) (lv : List (Nat × Value)), decode cX10_next pc = .ok (.return_, 1) → zW p l e R s m args below meth c cells slots Q D Ca B 2 τ N pc lv []) : zW p l e R s m args below meth c cells slots Q D Ca B 2 σ N 0 [(0, .ref x0)] [] := by
  unfold fX10_next at hf
  obtain ⟨o9, ho9, hf⟩ := zbind hf
  refine z_sub [0] rfl ?_
  refine wsX10_next_0 C hRm ev hZ _ zfuel σ o9 ho9 ?_
  intro z9 e9
  subst e9
  refine z_aload_n C dX10_next_39 rfl 0 rfl ?_
  refine z_aload_n C dX10_next_40 rfl 0 rfl ?_
  obtain ⟨v10, hv10, hf⟩ := zbind hf
  refine gf_RX10_363 C hv10 dX10_next_41 ?_
  obtain ⟨σ11, hσ11, hf⟩ := zbind hf
  refine gp_RX10_369 C hσ11 dX10_next_44 ?_
  refine z_aload_n C dX10_next_47 rfl 0 rfl ?_
  refine z_aload_n C dX10_next_48 rfl 0 rfl ?_
  obtain ⟨v12, hv12, hf⟩ := zbind hf
  refine gf_RX10_363 C hv12 dX10_next_49 ?_
  obtain ⟨c13, hc13, hf⟩ := zbind hf
  obtain ⟨kc13, hc13⟩ := zck_ok hc13
  refine z_callVi (As := [.int v12]) (F0 := 5) (L0 := 108) C (mX10_here l D Ca B En C.2.2.2.2.2.2.2.1 σ11 N x0 v12 _ hc13) hRm kc13 rfl kw_1836 kw_14 kw_1833 kw_1835 kp_103 hyX10_here (Nat.le_of_ble_eq_true rfl) (Nat.le_of_ble_eq_true rfl) rfl rfl (Nat.le_of_ble_eq_true rfl) dX10_next_52 ?_
  refine z_istore_n (lv2 := [(1, .int c13.2), (0, .ref x0)]) C dX10_next_55 rfl (by decide) rfl ?_
  refine z_iload_n C dX10_next_56 rfl 0 rfl ?_
  refine z_iconst C (-1) dX10_next_57 (by decide) ?_
  refine z_icmp_ne C 69 dX10_next_58 (by decide) (fun q53 => ?_) (fun q53 => ?_)
  · rw [if_neg q53] at hf
    refine z_iload_n C dX10_next_69 rfl 0 rfl ?_
    refine z_i2l C dX10_next_70 ?_
    refine z_ldc2 C kw_1837 dX10_next_71 ?_
    refine z_ldc2 C kw_1838 dX10_next_74 ?_
    obtain ⟨c14, hc14, hf⟩ := zbind hf
    refine z_callSi (As := [.long c13.2.toInt64, .long 97, .long 122]) (F0 := 5) (L0 := 108) C (mX10_isIn l D Ca B En C.2.2.2.2.2.2.2.1 c13.1 N c13.2.toInt64 97 122 _ hc14) hRm kw_1392 kw_14 kw_1390 kw_1391 hyX10_isIn (Nat.le_of_ble_eq_true rfl) (Nat.le_of_ble_eq_true rfl) rfl rfl (Nat.le_of_ble_eq_true rfl) dX10_next_77 ?_
    refine z_if_eq C 133 dX10_next_80 (by decide) (fun q51 => ?_) (fun q51 => ?_)
    · rw [if_pos q51] at hf
      refine z_iload_n C dX10_next_133 rfl 0 rfl ?_
      refine z_i2l C dX10_next_134 ?_
      refine z_ldc2 C kw_1846 dX10_next_135 ?_
      refine z_ldc2 C kw_1847 dX10_next_138 ?_
      obtain ⟨c15, hc15, hf⟩ := zbind hf
      refine z_callSi (As := [.long c13.2.toInt64, .long 48, .long 57]) (F0 := 5) (L0 := 108) C (mX10_isIn l D Ca B En C.2.2.2.2.2.2.2.1 c14.1 N c13.2.toInt64 48 57 _ hc15) hRm kw_1392 kw_14 kw_1390 kw_1391 hyX10_isIn (Nat.le_of_ble_eq_true rfl) (Nat.le_of_ble_eq_true rfl) rfl rfl (Nat.le_of_ble_eq_true rfl) dX10_next_141 ?_
      refine z_if_eq C 247 dX10_next_144 (by decide) (fun q40 => ?_) (fun q40 => ?_)
      · rw [if_pos q40] at hf
        refine z_aload_n C dX10_next_247 rfl 1 rfl ?_
        refine z_aload_n C dX10_next_248 rfl 1 rfl ?_
        obtain ⟨v16, hv16, hf⟩ := zbind hf
        refine gf_RX10_363 C hv16 dX10_next_249 ?_
        refine z_iconst C 1 dX10_next_252 (by decide) ?_
        refine z_iadd C dX10_next_253 ?_
        obtain ⟨σ17, hσ17, hf⟩ := zbind hf
        refine gp_RX10_363 C hσ17 dX10_next_254 ?_
        refine z_aload_n C dX10_next_257 rfl 1 rfl ?_
        refine z_iload_n C dX10_next_258 rfl 0 rfl ?_
        refine z_bipush C 59 dX10_next_259 (by decide) ?_
        refine z_icmp_ne C 268 dX10_next_261 (by decide) (fun q20 => ?_) (fun q20 => ?_)
        · rw [if_neg q20] at hf
          refine z_iconst C 4 dX10_next_268 (by decide) ?_
          obtain ⟨σ18, hσ18, hf⟩ := zbind hf
          refine gp_RX10_372 C hσ18 dX10_next_269 ?_
          cases hf
          exact hq _ _ dX10_next_272
        · rw [if_pos q20] at hf
          refine z_iconst C 3 dX10_next_264 (by decide) ?_
          refine z_goto C 269 dX10_next_265 (by decide) ?_
          obtain ⟨σ19, hσ19, hf⟩ := zbind hf
          refine gp_RX10_372 C hσ19 dX10_next_269 ?_
          cases hf
          exact hq _ _ dX10_next_272
      · rw [if_neg q40] at hf
        refine z_aload_n C dX10_next_147 rfl 1 rfl ?_
        refine z_iconst C 0 dX10_next_148 (by decide) ?_
        obtain ⟨σ21, hσ21, hf⟩ := zbind hf
        refine gp_RX10_389 C hσ21 dX10_next_149 ?_
        obtain ⟨o35, ho35, hf⟩ := zbind hf
        refine z_sub [1] rfl ?_
        refine wsX10_next_152 C hRm ev hZ _ zfuel σ21 o35 ho35 ?_
        intro z9 e9
        subst e9
        refine z_aload_n C dX10_next_222 rfl 0 rfl ?_
        refine z_aload_n C dX10_next_223 rfl 0 rfl ?_
        obtain ⟨v36, hv36, hf⟩ := zbind hf
        refine gf_RX10_363 C hv36 dX10_next_224 ?_
        refine z_aload_n C dX10_next_227 rfl 0 rfl ?_
        obtain ⟨v37, hv37, hf⟩ := zbind hf
        refine gf_RX10_369 C hv37 dX10_next_228 ?_
        refine z_isub C dX10_next_231 ?_
        refine z_iconst C 3 dX10_next_232 (by decide) ?_
        refine z_icmp_le C 240 dX10_next_233 (by decide) (fun q39 => ?_) (fun q39 => ?_)
        · rw [if_pos q39] at hf
          refine z_iconst C 2 dX10_next_240 (by decide) ?_
          refine z_sub [] rfl ?_
          exact wjX10_next_241 C hRm ev hZ _  _ _ _ hf hq
        · rw [if_neg q39] at hf
          refine z_iconst C 4 dX10_next_236 (by decide) ?_
          refine z_goto C 241 dX10_next_237 (by decide) ?_
          refine z_sub [] rfl ?_
          exact wjX10_next_241 C hRm ev hZ _  _ _ _ hf hq
    · rw [if_neg q51] at hf
      obtain ⟨o47, ho47, hf⟩ := zbind hf
      refine z_sub [1] rfl ?_
      refine wsX10_next_83 C hRm ev hZ _ zfuel c14.1 o47 ho47 ?_
      intro z9 e9
      subst e9
      refine z_aload_n C dX10_next_117 rfl 0 rfl ?_
      refine z_iconst C 1 dX10_next_118 (by decide) ?_
      obtain ⟨σ48, hσ48, hf⟩ := zbind hf
      refine gp_RX10_372 C hσ48 dX10_next_119 ?_
      refine z_aload_n C dX10_next_122 rfl 0 rfl ?_
      refine z_aload_n C dX10_next_123 rfl 0 rfl ?_
      obtain ⟨c49, hc49, hf⟩ := zbind hf
      obtain ⟨kc49, hc49⟩ := zck_ok hc49
      refine z_callVi (As := []) (F0 := 5) (L0 := 108) C (mX10_wordHere l D Ca B En C.2.2.2.2.2.2.2.1 ev hZ σ48 N x0  _ hc49) hRm kc49 rfl kw_1842 kw_14 kw_1839 kw_1841 kp_104 hyX10_wordHere (Nat.le_of_ble_eq_true rfl) (Nat.le_of_ble_eq_true rfl) rfl rfl (Nat.le_of_ble_eq_true rfl) dX10_next_124 ?_
      obtain ⟨σ50, hσ50, hf⟩ := zbind hf
      refine gp_RX10_382 C hσ50 dX10_next_127 ?_
      refine z_goto C 272 dX10_next_130 (by decide) ?_
      cases hf
      exact hq _ _ dX10_next_272
  · rw [if_pos q53] at hf
    refine z_aload_n C dX10_next_61 rfl 1 rfl ?_
    refine z_iconst C 0 dX10_next_62 (by decide) ?_
    obtain ⟨σ52, hσ52, hf⟩ := zbind hf
    refine gp_RX10_372 C hσ52 dX10_next_63 ?_
    refine z_goto C 272 dX10_next_66 (by decide) ?_
    cases hf
    exact hq _ _ dX10_next_272

theorem mX10_next (l : Launch) (D : va_G) (Ca : Nat → ClassId) (B : Nat) (En : State → Prop) (hE : zEk B En) (ev : zEv) (hZ : ∀ U : State, En U → zEnv ev B U) (σ : zS) (N : Nat) (x0 : Nat) (X : zS) (hf : fX10_next σ x0 = some X) : zMv l D Ca B En yX10_next cX10_next 2 (Option.none : Option Jvm.ClassFile.FieldType) 5 108 [.ref x0] σ N X () :=
  zMet_v (own := RX10) hE (by decide +kernel) rfl (Nat.le_of_ble_eq_true rfl) (fun p e s m args below meth c C hr hRm => wfX10_next C hRm ev hZ σ x0 X hf (fun pc lv hd => zfin_v (r := ()) C hr hd))
theorem dX10_fine_0 : decode cX10_fine 0 = .ok (.aload_n 0, 1) := by decide +kernel
theorem dX10_fine_1 : decode cX10_fine 1 = .ok (.getfield 402, 3) := by decide +kernel
theorem dX10_fine_4 : decode cX10_fine 4 = .ok (.ifCond .ne 7, 3) := by decide +kernel
theorem dX10_fine_7 : decode cX10_fine 7 = .ok (.iconst 1, 1) := by decide +kernel
theorem dX10_fine_8 : decode cX10_fine 8 = .ok (.goto 4, 3) := by decide +kernel
theorem dX10_fine_11 : decode cX10_fine 11 = .ok (.iconst 0, 1) := by decide +kernel
theorem dX10_fine_12 : decode cX10_fine 12 = .ok (.ireturn, 1) := by decide +kernel
theorem hyX10_fine : yX10_fine.cls ≠ "java/lang/invoke/MethodHandle" ∧ yX10_fine.cls ≠ "java/lang/invoke/VarHandle" ∧ (parseMethodDescriptor yX10_fine.desc).map (fun d => d.parameters.length) = some 0 := ⟨by decide +kernel, by decide +kernel, by decide +kernel⟩
def fX10_fine (σ : zS) (x0 : Nat) : Option (zS × Int32) :=
  (zgI 9 22 σ x0).bind fun v1 => (if v1 = 0 then zrZ σ 1 else zrZ σ 0)
set_option maxRecDepth 100000 in
set_option maxHeartbeats 4000000 in
theorem wfX10_fine (C : zC p s m args meth c cX10_fine RX10 1 D Ca B En) (hRm : zRm R 0 0 cells slots) (σ : zS) (x0 : Nat) (τ : zS) (r : Int32) (hf : fX10_fine σ x0 = some (τ, r)) (hq : ∀ (pc : Nat) (lv : List (Nat × Value)), (r = 0 ∨ r = 1) → decode cX10_fine pc = .ok (.ireturn, 1) → zW p l e R s m args below meth c cells slots Q D Ca B 1 τ N pc lv [.int r]) : zW p l e R s m args below meth c cells slots Q D Ca B 1 σ N 0 [(0, .ref x0)] [] := by
  unfold fX10_fine at hf
  refine z_aload_n C dX10_fine_0 rfl 0 rfl ?_
  obtain ⟨v1, hv1, hf⟩ := zbind hf
  refine gf_RX10_402 C hv1 dX10_fine_1 ?_
  refine z_if_ne C 11 dX10_fine_4 (by decide) (fun q2 => ?_) (fun q2 => ?_)
  · rw [if_neg q2] at hf
    refine z_iconst C 0 dX10_fine_11 (by decide) ?_
    obtain ⟨e9, b9⟩ := zrZ_ok hf
    cases e9
    exact hq _ _ b9 dX10_fine_12
  · rw [if_pos q2] at hf
    refine z_iconst C 1 dX10_fine_7 (by decide) ?_
    refine z_goto C 12 dX10_fine_8 (by decide) ?_
    obtain ⟨e9, b9⟩ := zrZ_ok hf
    cases e9
    exact hq _ _ b9 dX10_fine_12

theorem mX10_fine (l : Launch) (D : va_G) (Ca : Nat → ClassId) (B : Nat) (En : State → Prop) (hE : zEk B En) (σ : zS) (N : Nat) (x0 : Nat) (X : zS × Int32) (hf : fX10_fine σ x0 = some X) : zMi l D Ca B En yX10_fine cX10_fine 1 (Option.some Jvm.ClassFile.FieldType.boolean) 0 0 [.ref x0] σ N X.1 X.2 :=
  zMet_i (own := RX10) hE (by decide +kernel) rfl (Nat.le_of_ble_eq_true rfl) (fun p e s m args below meth c C hr hRm => wfX10_fine C hRm σ x0 X.1 X.2 hf (fun pc lv hb hd => zfin_z C hb hr hd))
theorem dX10_needs_0 : decode cX10_needs 0 = .ok (.aload_n 0, 1) := by decide +kernel
theorem dX10_needs_1 : decode cX10_needs 1 = .ok (.getfield 402, 3) := by decide +kernel
theorem dX10_needs_4 : decode cX10_needs 4 = .ok (.ifCond .ne 7, 3) := by decide +kernel
theorem dX10_needs_7 : decode cX10_needs 7 = .ok (.iload_n 1, 1) := by decide +kernel
theorem dX10_needs_8 : decode cX10_needs 8 = .ok (.ifCond .eq 4, 3) := by decide +kernel
theorem dX10_needs_11 : decode cX10_needs 11 = .ok (.return_, 1) := by decide +kernel
theorem dX10_needs_12 : decode cX10_needs 12 = .ok (.aload_n 0, 1) := by decide +kernel
theorem dX10_needs_13 : decode cX10_needs 13 = .ok (.iload_n 2, 1) := by decide +kernel
theorem dX10_needs_14 : decode cX10_needs 14 = .ok (.putfield 402, 3) := by decide +kernel
theorem dX10_needs_17 : decode cX10_needs 17 = .ok (.aload_n 0, 1) := by decide +kernel
theorem dX10_needs_18 : decode cX10_needs 18 = .ok (.aload_n 0, 1) := by decide +kernel
theorem dX10_needs_19 : decode cX10_needs 19 = .ok (.getfield 369, 3) := by decide +kernel
theorem dX10_needs_22 : decode cX10_needs 22 = .ok (.putfield 44, 3) := by decide +kernel
theorem dX10_needs_25 : decode cX10_needs 25 = .ok (.return_, 1) := by decide +kernel
theorem hyX10_needs : yX10_needs.cls ≠ "java/lang/invoke/MethodHandle" ∧ yX10_needs.cls ≠ "java/lang/invoke/VarHandle" ∧ (parseMethodDescriptor yX10_needs.desc).map (fun d => d.parameters.length) = some 2 := ⟨by decide +kernel, by decide +kernel, by decide +kernel⟩
def fX10_needs (σ : zS) (x0 : Nat) (x1 : Int32) (x2 : Int32) : Option zS :=
  (zgI 9 22 σ x0).bind fun v1 => (if v1 = 0 then (if x1 = 0 then (zpI 9 22 σ x0 x2).bind fun σ2 => (zgI 9 18 σ2 x0).bind fun v3 => (zpI 9 23 σ2 x0 v3).bind fun σ4 => some σ4 else some σ) else some σ)
set_option maxRecDepth 100000 in
set_option maxHeartbeats 4000000 in
theorem wfX10_needs (C : zC p s m args meth c cX10_needs RX10 3 D Ca B En) (hRm : zRm R 0 0 cells slots) (σ : zS) (x0 : Nat) (x1 : Int32) (x2 : Int32) (τ : zS) (hf : fX10_needs σ x0 x1 x2 = some τ) (hq : ∀ (pc : Nat) (lv : List (Nat × Value)), decode cX10_needs pc = .ok (.return_, 1) → zW p l e R s m args below meth c cells slots Q D Ca B 3 τ N pc lv []) : zW p l e R s m args below meth c cells slots Q D Ca B 3 σ N 0 [(0, .ref x0), (1, .int x1), (2, .int x2)] [] := by
  unfold fX10_needs at hf
  refine z_aload_n C dX10_needs_0 rfl 0 rfl ?_
  obtain ⟨v1, hv1, hf⟩ := zbind hf
  refine gf_RX10_402 C hv1 dX10_needs_1 ?_
  refine z_if_ne C 11 dX10_needs_4 (by decide) (fun q6 => ?_) (fun q6 => ?_)
  · rw [if_neg q6] at hf
    cases hf
    exact hq _ _ dX10_needs_11
  · rw [if_pos q6] at hf
    refine z_iload_n C dX10_needs_7 rfl 1 rfl ?_
    refine z_if_eq C 12 dX10_needs_8 (by decide) (fun q5 => ?_) (fun q5 => ?_)
    · rw [if_pos q5] at hf
      refine z_aload_n C dX10_needs_12 rfl 0 rfl ?_
      refine z_iload_n C dX10_needs_13 rfl 2 rfl ?_
      obtain ⟨σ2, hσ2, hf⟩ := zbind hf
      refine gp_RX10_402 C hσ2 dX10_needs_14 ?_
      refine z_aload_n C dX10_needs_17 rfl 0 rfl ?_
      refine z_aload_n C dX10_needs_18 rfl 0 rfl ?_
      obtain ⟨v3, hv3, hf⟩ := zbind hf
      refine gf_RX10_369 C hv3 dX10_needs_19 ?_
      obtain ⟨σ4, hσ4, hf⟩ := zbind hf
      refine gp_RX10_44 C hσ4 dX10_needs_22 ?_
      cases hf
      exact hq _ _ dX10_needs_25
    · rw [if_neg q5] at hf
      cases hf
      exact hq _ _ dX10_needs_11

theorem mX10_needs (l : Launch) (D : va_G) (Ca : Nat → ClassId) (B : Nat) (En : State → Prop) (hE : zEk B En) (σ : zS) (N : Nat) (x0 : Nat) (x1 : Int32) (x2 : Int32) (X : zS) (hf : fX10_needs σ x0 x1 x2 = some X) : zMv l D Ca B En yX10_needs cX10_needs 3 (Option.none : Option Jvm.ClassFile.FieldType) 0 0 [.ref x0, .int x1, .int x2] σ N X () :=
  zMet_v (own := RX10) hE (by decide +kernel) rfl (Nat.le_of_ble_eq_true rfl) (fun p e s m args below meth c C hr hRm => wfX10_needs C hRm σ x0 x1 x2 X hf (fun pc lv hd => zfin_v (r := ()) C hr hd))
theorem dX10_goOn_0 : decode cX10_goOn 0 = .ok (.aload_n 0, 1) := by decide +kernel
theorem dX10_goOn_1 : decode cX10_goOn 1 = .ok (.invokevirtual 405, 3) := by decide +kernel
theorem dX10_goOn_4 : decode cX10_goOn 4 = .ok (.ifCond .eq 7, 3) := by decide +kernel
theorem dX10_goOn_7 : decode cX10_goOn 7 = .ok (.aload_n 0, 1) := by decide +kernel
theorem dX10_goOn_8 : decode cX10_goOn 8 = .ok (.invokevirtual 408, 3) := by decide +kernel
theorem dX10_goOn_11 : decode cX10_goOn 11 = .ok (.return_, 1) := by decide +kernel
theorem hyX10_goOn : yX10_goOn.cls ≠ "java/lang/invoke/MethodHandle" ∧ yX10_goOn.cls ≠ "java/lang/invoke/VarHandle" ∧ (parseMethodDescriptor yX10_goOn.desc).map (fun d => d.parameters.length) = some 0 := ⟨by decide +kernel, by decide +kernel, by decide +kernel⟩
def fX10_goOn (σ : zS) (x0 : Nat) : Option zS :=
  (zck 9 σ x0 (fX10_fine σ x0 )).bind fun c1 => (if c1.2 = 0 then some c1.1 else (zck 9 c1.1 x0 (fX10_next c1.1 x0 )).bind fun c2 => some c2)
set_option maxRecDepth 100000 in
set_option maxHeartbeats 4000000 in
theorem wfX10_goOn (C : zC p s m args meth c cX10_goOn RX10 1 D Ca B En) (hRm : zRm R 6 129 cells slots) (ev : zEv) (hZ : ∀ U : State, En U → zEnv ev B U) (σ : zS) (x0 : Nat) (τ : zS) (hf : fX10_goOn σ x0 = some τ) (hq : ∀ (pc : Nat) (lv : List (Nat × Value)), decode cX10_goOn pc = .ok (.return_, 1) → zW p l e R s m args below meth c cells slots Q D Ca B 1 τ N pc lv []) : zW p l e R s m args below meth c cells slots Q D Ca B 1 σ N 0 [(0, .ref x0)] [] := by
  unfold fX10_goOn at hf
  refine z_aload_n C dX10_goOn_0 rfl 0 rfl ?_
  obtain ⟨c1, hc1, hf⟩ := zbind hf
  obtain ⟨kc1, hc1⟩ := zck_ok hc1
  refine z_callVi (As := []) (F0 := 6) (L0 := 129) C (mX10_fine l D Ca B En C.2.2.2.2.2.2.2.1 σ N x0  _ hc1) hRm kc1 rfl kw_1851 kw_14 kw_1848 kw_1850 kp_105 hyX10_fine (Nat.le_of_ble_eq_true rfl) (Nat.le_of_ble_eq_true rfl) rfl rfl (Nat.le_of_ble_eq_true rfl) dX10_goOn_1 ?_
  refine z_if_eq C 11 dX10_goOn_4 (by decide) (fun q3 => ?_) (fun q3 => ?_)
  · rw [if_pos q3] at hf
    cases hf
    exact hq _ _ dX10_goOn_11
  · rw [if_neg q3] at hf
    refine z_aload_n C dX10_goOn_7 rfl 0 rfl ?_
    obtain ⟨c2, hc2, hf⟩ := zbind hf
    obtain ⟨kc2, hc2⟩ := zck_ok hc2
    refine z_callVv (As := []) (F0 := 6) (L0 := 129) C (mX10_next l D Ca B En C.2.2.2.2.2.2.2.1 ev hZ c1.1 N x0  _ hc2) hRm kc2 rfl kw_1832 kw_14 kw_1829 kw_1831 kp_102 hyX10_next (Nat.le_of_ble_eq_true rfl) (Nat.le_of_ble_eq_true rfl) rfl rfl (Nat.le_of_ble_eq_true rfl) dX10_goOn_8 ?_
    cases hf
    exact hq _ _ dX10_goOn_11

theorem mX10_goOn (l : Launch) (D : va_G) (Ca : Nat → ClassId) (B : Nat) (En : State → Prop) (hE : zEk B En) (ev : zEv) (hZ : ∀ U : State, En U → zEnv ev B U) (σ : zS) (N : Nat) (x0 : Nat) (X : zS) (hf : fX10_goOn σ x0 = some X) : zMv l D Ca B En yX10_goOn cX10_goOn 1 (Option.none : Option Jvm.ClassFile.FieldType) 6 129 [.ref x0] σ N X () :=
  zMet_v (own := RX10) hE (by decide +kernel) rfl (Nat.le_of_ble_eq_true rfl) (fun p e s m args below meth c C hr hRm => wfX10_goOn C hRm ev hZ σ x0 X hf (fun pc lv hd => zfin_v (r := ()) C hr hd))
theorem dX10_isWord_0 : decode cX10_isWord 0 = .ok (.aload_n 0, 1) := by decide +kernel
theorem dX10_isWord_1 : decode cX10_isWord 1 = .ok (.invokevirtual 405, 3) := by decide +kernel
theorem dX10_isWord_4 : decode cX10_isWord 4 = .ok (.ifCond .eq 23, 3) := by decide +kernel
theorem dX10_isWord_7 : decode cX10_isWord 7 = .ok (.aload_n 0, 1) := by decide +kernel
theorem dX10_isWord_8 : decode cX10_isWord 8 = .ok (.getfield 372, 3) := by decide +kernel
theorem dX10_isWord_11 : decode cX10_isWord 11 = .ok (.iconst 1, 1) := by decide +kernel
theorem dX10_isWord_12 : decode cX10_isWord 12 = .ok (.if_icmp .ne 15, 3) := by decide +kernel
theorem dX10_isWord_15 : decode cX10_isWord 15 = .ok (.aload_n 0, 1) := by decide +kernel
theorem dX10_isWord_16 : decode cX10_isWord 16 = .ok (.getfield 382, 3) := by decide +kernel
theorem dX10_isWord_19 : decode cX10_isWord 19 = .ok (.iload_n 1, 1) := by decide +kernel
theorem dX10_isWord_20 : decode cX10_isWord 20 = .ok (.if_icmp .ne 7, 3) := by decide +kernel
theorem dX10_isWord_23 : decode cX10_isWord 23 = .ok (.iconst 1, 1) := by decide +kernel
theorem dX10_isWord_24 : decode cX10_isWord 24 = .ok (.goto 4, 3) := by decide +kernel
theorem dX10_isWord_27 : decode cX10_isWord 27 = .ok (.iconst 0, 1) := by decide +kernel
theorem dX10_isWord_28 : decode cX10_isWord 28 = .ok (.ireturn, 1) := by decide +kernel
theorem hyX10_isWord : yX10_isWord.cls ≠ "java/lang/invoke/MethodHandle" ∧ yX10_isWord.cls ≠ "java/lang/invoke/VarHandle" ∧ (parseMethodDescriptor yX10_isWord.desc).map (fun d => d.parameters.length) = some 1 := ⟨by decide +kernel, by decide +kernel, by decide +kernel⟩
def fX10_isWord (σ : zS) (x0 : Nat) (x1 : Int32) : Option (zS × Int32) :=
  (zck 9 σ x0 (fX10_fine σ x0 )).bind fun c1 => (if c1.2 = 0 then zrZ c1.1 0 else (zgI 9 19 c1.1 x0).bind fun v2 => (if v2 = 1 then (zgI 9 20 c1.1 x0).bind fun v3 => (if v3 = x1 then zrZ c1.1 1 else zrZ c1.1 0) else zrZ c1.1 0))
set_option maxRecDepth 100000 in
set_option maxHeartbeats 4000000 in
theorem wfX10_isWord (C : zC p s m args meth c cX10_isWord RX10 2 D Ca B En) (hRm : zRm R 1 20 cells slots) (σ : zS) (x0 : Nat) (x1 : Int32) (τ : zS) (r : Int32) (hf : fX10_isWord σ x0 x1 = some (τ, r)) (hq : ∀ (pc : Nat) (lv : List (Nat × Value)), (r = 0 ∨ r = 1) → decode cX10_isWord pc = .ok (.ireturn, 1) → zW p l e R s m args below meth c cells slots Q D Ca B 2 τ N pc lv [.int r]) : zW p l e R s m args below meth c cells slots Q D Ca B 2 σ N 0 [(0, .ref x0), (1, .int x1)] [] := by
  unfold fX10_isWord at hf
  refine z_aload_n C dX10_isWord_0 rfl 0 rfl ?_
  obtain ⟨c1, hc1, hf⟩ := zbind hf
  obtain ⟨kc1, hc1⟩ := zck_ok hc1
  refine z_callVi (As := []) (F0 := 1) (L0 := 20) C (mX10_fine l D Ca B En C.2.2.2.2.2.2.2.1 σ N x0  _ hc1) hRm kc1 rfl kw_1851 kw_14 kw_1848 kw_1850 kp_105 hyX10_fine (Nat.le_of_ble_eq_true rfl) (Nat.le_of_ble_eq_true rfl) rfl rfl (Nat.le_of_ble_eq_true rfl) dX10_isWord_1 ?_
  refine z_if_eq C 27 dX10_isWord_4 (by decide) (fun q6 => ?_) (fun q6 => ?_)
  · rw [if_pos q6] at hf
    refine z_iconst C 0 dX10_isWord_27 (by decide) ?_
    obtain ⟨e9, b9⟩ := zrZ_ok hf
    cases e9
    exact hq _ _ b9 dX10_isWord_28
  · rw [if_neg q6] at hf
    refine z_aload_n C dX10_isWord_7 rfl 0 rfl ?_
    obtain ⟨v2, hv2, hf⟩ := zbind hf
    refine gf_RX10_372 C hv2 dX10_isWord_8 ?_
    refine z_iconst C 1 dX10_isWord_11 (by decide) ?_
    refine z_icmp_ne C 27 dX10_isWord_12 (by decide) (fun q5 => ?_) (fun q5 => ?_)
    · rw [if_neg q5] at hf
      refine z_iconst C 0 dX10_isWord_27 (by decide) ?_
      obtain ⟨e9, b9⟩ := zrZ_ok hf
      cases e9
      exact hq _ _ b9 dX10_isWord_28
    · rw [if_pos q5] at hf
      refine z_aload_n C dX10_isWord_15 rfl 0 rfl ?_
      obtain ⟨v3, hv3, hf⟩ := zbind hf
      refine gf_RX10_382 C hv3 dX10_isWord_16 ?_
      refine z_iload_n C dX10_isWord_19 rfl 1 rfl ?_
      refine z_icmp_ne C 27 dX10_isWord_20 (by decide) (fun q4 => ?_) (fun q4 => ?_)
      · rw [if_neg q4] at hf
        refine z_iconst C 0 dX10_isWord_27 (by decide) ?_
        obtain ⟨e9, b9⟩ := zrZ_ok hf
        cases e9
        exact hq _ _ b9 dX10_isWord_28
      · rw [if_pos q4] at hf
        refine z_iconst C 1 dX10_isWord_23 (by decide) ?_
        refine z_goto C 28 dX10_isWord_24 (by decide) ?_
        obtain ⟨e9, b9⟩ := zrZ_ok hf
        cases e9
        exact hq _ _ b9 dX10_isWord_28

theorem mX10_isWord (l : Launch) (D : va_G) (Ca : Nat → ClassId) (B : Nat) (En : State → Prop) (hE : zEk B En) (σ : zS) (N : Nat) (x0 : Nat) (x1 : Int32) (X : zS × Int32) (hf : fX10_isWord σ x0 x1 = some X) : zMi l D Ca B En yX10_isWord cX10_isWord 2 (Option.some Jvm.ClassFile.FieldType.boolean) 1 20 [.ref x0, .int x1] σ N X.1 X.2 :=
  zMet_i (own := RX10) hE (by decide +kernel) rfl (Nat.le_of_ble_eq_true rfl) (fun p e s m args below meth c C hr hRm => wfX10_isWord C hRm σ x0 x1 X.1 X.2 hf (fun pc lv hb hd => zfin_z C hb hr hd))
theorem dX10_number_0 : decode cX10_number 0 = .ok (.aload_n 0, 1) := by decide +kernel
theorem dX10_number_1 : decode cX10_number 1 = .ok (.aload_n 0, 1) := by decide +kernel
theorem dX10_number_2 : decode cX10_number 2 = .ok (.getfield 372, 3) := by decide +kernel
theorem dX10_number_5 : decode cX10_number 5 = .ok (.iconst 2, 1) := by decide +kernel
theorem dX10_number_6 : decode cX10_number 6 = .ok (.if_icmp .ne 7, 3) := by decide +kernel
theorem dX10_number_9 : decode cX10_number 9 = .ok (.iconst 1, 1) := by decide +kernel
theorem dX10_number_10 : decode cX10_number 10 = .ok (.goto 4, 3) := by decide +kernel
theorem dX10_number_13 : decode cX10_number 13 = .ok (.iconst 0, 1) := by decide +kernel
theorem dX10_number_14 : decode cX10_number 14 = .ok (.iconst 1, 1) := by decide +kernel
theorem dX10_number_15 : decode cX10_number 15 = .ok (.invokevirtual 411, 3) := by decide +kernel
theorem dX10_number_18 : decode cX10_number 18 = .ok (.aload_n 0, 1) := by decide +kernel
theorem dX10_number_19 : decode cX10_number 19 = .ok (.invokevirtual 405, 3) := by decide +kernel
theorem dX10_number_22 : decode cX10_number 22 = .ok (.ifCond .eq 20, 3) := by decide +kernel
theorem dX10_number_25 : decode cX10_number 25 = .ok (.aload_n 0, 1) := by decide +kernel
theorem dX10_number_26 : decode cX10_number 26 = .ok (.aload_n 0, 1) := by decide +kernel
theorem dX10_number_27 : decode cX10_number 27 = .ok (.getfield 389, 3) := by decide +kernel
theorem dX10_number_30 : decode cX10_number 30 = .ok (.i2l, 1) := by decide +kernel
theorem dX10_number_31 : decode cX10_number 31 = .ok (.iload_n 1, 1) := by decide +kernel
theorem dX10_number_32 : decode cX10_number 32 = .ok (.i2l, 1) := by decide +kernel
theorem dX10_number_33 : decode cX10_number 33 = .ok (.iload_n 2, 1) := by decide +kernel
theorem dX10_number_34 : decode cX10_number 34 = .ok (.i2l, 1) := by decide +kernel
theorem dX10_number_35 : decode cX10_number 35 = .ok (.invokestatic 247, 3) := by decide +kernel
theorem dX10_number_38 : decode cX10_number 38 = .ok (.iconst 2, 1) := by decide +kernel
theorem dX10_number_39 : decode cX10_number 39 = .ok (.invokevirtual 411, 3) := by decide +kernel
theorem dX10_number_42 : decode cX10_number 42 = .ok (.aload_n 0, 1) := by decide +kernel
theorem dX10_number_43 : decode cX10_number 43 = .ok (.getfield 389, 3) := by decide +kernel
theorem dX10_number_46 : decode cX10_number 46 = .ok (.istore_n 3, 1) := by decide +kernel
theorem dX10_number_47 : decode cX10_number 47 = .ok (.aload_n 0, 1) := by decide +kernel
theorem dX10_number_48 : decode cX10_number 48 = .ok (.invokevirtual 415, 3) := by decide +kernel
theorem dX10_number_51 : decode cX10_number 51 = .ok (.iload_n 3, 1) := by decide +kernel
theorem dX10_number_52 : decode cX10_number 52 = .ok (.ireturn, 1) := by decide +kernel
theorem hyX10_number : yX10_number.cls ≠ "java/lang/invoke/MethodHandle" ∧ yX10_number.cls ≠ "java/lang/invoke/VarHandle" ∧ (parseMethodDescriptor yX10_number.desc).map (fun d => d.parameters.length) = some 2 := ⟨by decide +kernel, by decide +kernel, by decide +kernel⟩
def jX10_number_42 (σ : zS) (x0 : Nat)  : Option (zS × Int32) :=
  (zgI 9 21 σ x0).bind fun v4 => (zck 9 σ x0 (fX10_goOn σ x0 )).bind fun c5 => some (c5, v4)
set_option maxRecDepth 100000 in
set_option maxHeartbeats 4000000 in
theorem wjX10_number_42 (C : zC p s m args meth c cX10_number RX10 4 D Ca B En) (hRm : zRm R 7 149 cells slots) (ev : zEv) (hZ : ∀ U : State, En U → zEnv ev B U) (σ : zS) (x0 : Nat)  (τ : zS) (r : Int32) (hf : jX10_number_42 σ x0  = some (τ, r)) (hq : ∀ (pc : Nat) (lv : List (Nat × Value)), decode cX10_number pc = .ok (.ireturn, 1) → zW p l e R s m args below meth c cells slots Q D Ca B 4 τ N pc lv [.int r]) : zW p l e R s m args below meth c cells slots Q D Ca B 4 σ N 42 [(0, .ref x0)] [] := by
  unfold jX10_number_42 at hf
  refine z_aload_n C dX10_number_42 rfl 0 rfl ?_
  obtain ⟨v4, hv4, hf⟩ := zbind hf
  refine gf_RX10_389 C hv4 dX10_number_43 ?_
  refine z_istore_n (lv2 := [(3, .int v4), (0, .ref x0)]) C dX10_number_46 rfl (by decide) rfl ?_
  refine z_aload_n C dX10_number_47 rfl 1 rfl ?_
  obtain ⟨c5, hc5, hf⟩ := zbind hf
  obtain ⟨kc5, hc5⟩ := zck_ok hc5
  refine z_callVv (As := []) (F0 := 7) (L0 := 149) C (mX10_goOn l D Ca B En C.2.2.2.2.2.2.2.1 ev hZ σ N x0  _ hc5) hRm kc5 rfl kw_1871 kw_14 kw_1868 kw_1870 kp_110 hyX10_goOn (Nat.le_of_ble_eq_true rfl) (Nat.le_of_ble_eq_true rfl) rfl rfl (Nat.le_of_ble_eq_true rfl) dX10_number_48 ?_
  refine z_iload_n C dX10_number_51 rfl 0 rfl ?_
  cases hf
  exact hq _ _ dX10_number_52

def jX10_number_14 (σ : zS) (x0 : Nat) (x1 : Int32) (x2 : Int32) (y0 : Int32) (y1 : Nat) : Option (zS × Int32) :=
  (zck 9 σ y1 (fX10_needs σ y1 y0 1)).bind fun c2 => (zck 9 c2 x0 (fX10_fine c2 x0 )).bind fun c3 => (if c3.2 = 0 then jX10_number_42 c3.1 x0 else (zgI 9 21 c3.1 x0).bind fun v6 => (fX10_isIn c3.1 v6.toInt64 x1.toInt64 x2.toInt64).bind fun c7 => (zck 9 c7.1 x0 (fX10_needs c7.1 x0 c7.2 2)).bind fun c8 => jX10_number_42 c8 x0)
set_option maxRecDepth 100000 in
set_option maxHeartbeats 4000000 in
theorem wjX10_number_14 (C : zC p s m args meth c cX10_number RX10 4 D Ca B En) (hRm : zRm R 7 149 cells slots) (ev : zEv) (hZ : ∀ U : State, En U → zEnv ev B U) (σ : zS) (x0 : Nat) (x1 : Int32) (x2 : Int32) (y0 : Int32) (y1 : Nat) (τ : zS) (r : Int32) (hf : jX10_number_14 σ x0 x1 x2 y0 y1 = some (τ, r)) (hq : ∀ (pc : Nat) (lv : List (Nat × Value)), decode cX10_number pc = .ok (.ireturn, 1) → zW p l e R s m args below meth c cells slots Q D Ca B 4 τ N pc lv [.int r]) : zW p l e R s m args below meth c cells slots Q D Ca B 4 σ N 14 [(0, .ref x0), (1, .int x1), (2, .int x2)] [.int y0, .ref y1] := by
  unfold jX10_number_14 at hf
  refine z_iconst C 1 dX10_number_14 (by decide) ?_
  obtain ⟨c2, hc2, hf⟩ := zbind hf
  obtain ⟨kc2, hc2⟩ := zck_ok hc2
  refine z_callVv (As := [.int y0, .int 1]) (F0 := 7) (L0 := 149) C (mX10_needs l D Ca B En C.2.2.2.2.2.2.2.1 σ N y1 y0 1 _ hc2) hRm kc2 rfl kw_1867 kw_14 kw_1864 kw_1866 kp_109 hyX10_needs (Nat.le_of_ble_eq_true rfl) (Nat.le_of_ble_eq_true rfl) rfl rfl (Nat.le_of_ble_eq_true rfl) dX10_number_15 ?_
  refine z_aload_n C dX10_number_18 rfl 0 rfl ?_
  obtain ⟨c3, hc3, hf⟩ := zbind hf
  obtain ⟨kc3, hc3⟩ := zck_ok hc3
  refine z_callVi (As := []) (F0 := 7) (L0 := 149) C (mX10_fine l D Ca B En C.2.2.2.2.2.2.2.1 c2 N x0  _ hc3) hRm kc3 rfl kw_1851 kw_14 kw_1848 kw_1850 kp_105 hyX10_fine (Nat.le_of_ble_eq_true rfl) (Nat.le_of_ble_eq_true rfl) rfl rfl (Nat.le_of_ble_eq_true rfl) dX10_number_19 ?_
  refine z_if_eq C 42 dX10_number_22 (by decide) (fun q9 => ?_) (fun q9 => ?_)
  · rw [if_pos q9] at hf
    refine z_sub [0] rfl ?_
    exact wjX10_number_42 C hRm ev hZ _ _  _ _ hf hq
  · rw [if_neg q9] at hf
    refine z_aload_n C dX10_number_25 rfl 0 rfl ?_
    refine z_aload_n C dX10_number_26 rfl 0 rfl ?_
    obtain ⟨v6, hv6, hf⟩ := zbind hf
    refine gf_RX10_389 C hv6 dX10_number_27 ?_
    refine z_i2l C dX10_number_30 ?_
    refine z_iload_n C dX10_number_31 rfl 1 rfl ?_
    refine z_i2l C dX10_number_32 ?_
    refine z_iload_n C dX10_number_33 rfl 2 rfl ?_
    refine z_i2l C dX10_number_34 ?_
    obtain ⟨c7, hc7, hf⟩ := zbind hf
    refine z_callSi (As := [.long v6.toInt64, .long x1.toInt64, .long x2.toInt64]) (F0 := 7) (L0 := 149) C (mX10_isIn l D Ca B En C.2.2.2.2.2.2.2.1 c3.1 N v6.toInt64 x1.toInt64 x2.toInt64 _ hc7) hRm kw_1392 kw_14 kw_1390 kw_1391 hyX10_isIn (Nat.le_of_ble_eq_true rfl) (Nat.le_of_ble_eq_true rfl) rfl rfl (Nat.le_of_ble_eq_true rfl) dX10_number_35 ?_
    refine z_iconst C 2 dX10_number_38 (by decide) ?_
    obtain ⟨c8, hc8, hf⟩ := zbind hf
    obtain ⟨kc8, hc8⟩ := zck_ok hc8
    refine z_callVv (As := [.int c7.2, .int 2]) (F0 := 7) (L0 := 149) C (mX10_needs l D Ca B En C.2.2.2.2.2.2.2.1 c7.1 N x0 c7.2 2 _ hc8) hRm kc8 rfl kw_1867 kw_14 kw_1864 kw_1866 kp_109 hyX10_needs (Nat.le_of_ble_eq_true rfl) (Nat.le_of_ble_eq_true rfl) rfl rfl (Nat.le_of_ble_eq_true rfl) dX10_number_39 ?_
    refine z_sub [0] rfl ?_
    exact wjX10_number_42 C hRm ev hZ _ _  _ _ hf hq

def fX10_number (σ : zS) (x0 : Nat) (x1 : Int32) (x2 : Int32) : Option (zS × Int32) :=
  (zgI 9 19 σ x0).bind fun v1 => (if v1 = 2 then jX10_number_14 σ x0 x1 x2 1 x0 else jX10_number_14 σ x0 x1 x2 0 x0)
set_option maxRecDepth 100000 in
set_option maxHeartbeats 4000000 in
theorem wfX10_number (C : zC p s m args meth c cX10_number RX10 4 D Ca B En) (hRm : zRm R 7 149 cells slots) (ev : zEv) (hZ : ∀ U : State, En U → zEnv ev B U) (σ : zS) (x0 : Nat) (x1 : Int32) (x2 : Int32) (τ : zS) (r : Int32) (hf : fX10_number σ x0 x1 x2 = some (τ, r)) (hq : ∀ (pc : Nat) (lv : List (Nat × Value)), decode cX10_number pc = .ok (.ireturn, 1) → zW p l e R s m args below meth c cells slots Q D Ca B 4 τ N pc lv [.int r]) : zW p l e R s m args below meth c cells slots Q D Ca B 4 σ N 0 [(0, .ref x0), (1, .int x1), (2, .int x2)] [] := by
  unfold fX10_number at hf
  refine z_aload_n C dX10_number_0 rfl 0 rfl ?_
  refine z_aload_n C dX10_number_1 rfl 0 rfl ?_
  obtain ⟨v1, hv1, hf⟩ := zbind hf
  refine gf_RX10_372 C hv1 dX10_number_2 ?_
  refine z_iconst C 2 dX10_number_5 (by decide) ?_
  refine z_icmp_ne C 13 dX10_number_6 (by decide) (fun q10 => ?_) (fun q10 => ?_)
  · rw [if_neg q10] at hf
    refine z_iconst C 0 dX10_number_13 (by decide) ?_
    refine z_sub [0, 1, 2] rfl ?_
    exact wjX10_number_14 C hRm ev hZ _ _ _ _ _ _ _ _ hf hq
  · rw [if_pos q10] at hf
    refine z_iconst C 1 dX10_number_9 (by decide) ?_
    refine z_goto C 14 dX10_number_10 (by decide) ?_
    refine z_sub [0, 1, 2] rfl ?_
    exact wjX10_number_14 C hRm ev hZ _ _ _ _ _ _ _ _ hf hq

theorem mX10_number (l : Launch) (D : va_G) (Ca : Nat → ClassId) (B : Nat) (En : State → Prop) (hE : zEk B En) (ev : zEv) (hZ : ∀ U : State, En U → zEnv ev B U) (σ : zS) (N : Nat) (x0 : Nat) (x1 : Int32) (x2 : Int32) (X : zS × Int32) (hf : fX10_number σ x0 x1 x2 = some X) : zMi l D Ca B En yX10_number cX10_number 4 (Option.some Jvm.ClassFile.FieldType.int) 7 149 [.ref x0, .int x1, .int x2] σ N X.1 X.2 :=
  zMet_i (own := RX10) hE (by decide +kernel) rfl (Nat.le_of_ble_eq_true rfl) (fun p e s m args below meth c C hr hRm => wfX10_number C hRm ev hZ σ x0 x1 x2 X.1 X.2 hf (fun pc lv hd => zfin_i C hr hd))
theorem dX10_numberBehind_0 : decode cX10_numberBehind 0 = .ok (.aload_n 0, 1) := by decide +kernel
theorem dX10_numberBehind_1 : decode cX10_numberBehind 1 = .ok (.aload_n 0, 1) := by decide +kernel
theorem dX10_numberBehind_2 : decode cX10_numberBehind 2 = .ok (.iload_n 1, 1) := by decide +kernel
theorem dX10_numberBehind_3 : decode cX10_numberBehind 3 = .ok (.invokevirtual 418, 3) := by decide +kernel
theorem dX10_numberBehind_6 : decode cX10_numberBehind 6 = .ok (.iconst 1, 1) := by decide +kernel
theorem dX10_numberBehind_7 : decode cX10_numberBehind 7 = .ok (.invokevirtual 411, 3) := by decide +kernel
theorem dX10_numberBehind_10 : decode cX10_numberBehind 10 = .ok (.aload_n 0, 1) := by decide +kernel
theorem dX10_numberBehind_11 : decode cX10_numberBehind 11 = .ok (.invokevirtual 415, 3) := by decide +kernel
theorem dX10_numberBehind_14 : decode cX10_numberBehind 14 = .ok (.aload_n 0, 1) := by decide +kernel
theorem dX10_numberBehind_15 : decode cX10_numberBehind 15 = .ok (.iload_n 2, 1) := by decide +kernel
theorem dX10_numberBehind_16 : decode cX10_numberBehind 16 = .ok (.iload_n 3, 1) := by decide +kernel
theorem dX10_numberBehind_17 : decode cX10_numberBehind 17 = .ok (.invokevirtual 421, 3) := by decide +kernel
theorem dX10_numberBehind_20 : decode cX10_numberBehind 20 = .ok (.ireturn, 1) := by decide +kernel
theorem hyX10_numberBehind : yX10_numberBehind.cls ≠ "java/lang/invoke/MethodHandle" ∧ yX10_numberBehind.cls ≠ "java/lang/invoke/VarHandle" ∧ (parseMethodDescriptor yX10_numberBehind.desc).map (fun d => d.parameters.length) = some 3 := ⟨by decide +kernel, by decide +kernel, by decide +kernel⟩
def fX10_numberBehind (σ : zS) (x0 : Nat) (x1 : Int32) (x2 : Int32) (x3 : Int32) : Option (zS × Int32) :=
  (zck 9 σ x0 (fX10_isWord σ x0 x1)).bind fun c1 => (zck 9 c1.1 x0 (fX10_needs c1.1 x0 c1.2 1)).bind fun c2 => (zck 9 c2 x0 (fX10_goOn c2 x0 )).bind fun c3 => (zck 9 c3 x0 (fX10_number c3 x0 x2 x3)).bind fun c4 => some (c4.1, c4.2)
set_option maxRecDepth 100000 in
set_option maxHeartbeats 4000000 in
theorem wfX10_numberBehind (C : zC p s m args meth c cX10_numberBehind RX10 4 D Ca B En) (hRm : zRm R 8 172 cells slots) (ev : zEv) (hZ : ∀ U : State, En U → zEnv ev B U) (σ : zS) (x0 : Nat) (x1 : Int32) (x2 : Int32) (x3 : Int32) (τ : zS) (r : Int32) (hf : fX10_numberBehind σ x0 x1 x2 x3 = some (τ, r)) (hq : ∀ (pc : Nat) (lv : List (Nat × Value)), decode cX10_numberBehind pc = .ok (.ireturn, 1) → zW p l e R s m args below meth c cells slots Q D Ca B 4 τ N pc lv [.int r]) : zW p l e R s m args below meth c cells slots Q D Ca B 4 σ N 0 [(0, .ref x0), (1, .int x1), (2, .int x2), (3, .int x3)] [] := by
  unfold fX10_numberBehind at hf
  refine z_aload_n C dX10_numberBehind_0 rfl 0 rfl ?_
  refine z_aload_n C dX10_numberBehind_1 rfl 0 rfl ?_
  refine z_iload_n C dX10_numberBehind_2 rfl 1 rfl ?_
  obtain ⟨c1, hc1, hf⟩ := zbind hf
  obtain ⟨kc1, hc1⟩ := zck_ok hc1
  refine z_callVi (As := [.int x1]) (F0 := 8) (L0 := 172) C (mX10_isWord l D Ca B En C.2.2.2.2.2.2.2.1 σ N x0 x1 _ hc1) hRm kc1 rfl kw_1859 kw_14 kw_1856 kw_1858 kp_107 hyX10_isWord (Nat.le_of_ble_eq_true rfl) (Nat.le_of_ble_eq_true rfl) rfl rfl (Nat.le_of_ble_eq_true rfl) dX10_numberBehind_3 ?_
  refine z_iconst C 1 dX10_numberBehind_6 (by decide) ?_
  obtain ⟨c2, hc2, hf⟩ := zbind hf
  obtain ⟨kc2, hc2⟩ := zck_ok hc2
  refine z_callVv (As := [.int c1.2, .int 1]) (F0 := 8) (L0 := 172) C (mX10_needs l D Ca B En C.2.2.2.2.2.2.2.1 c1.1 N x0 c1.2 1 _ hc2) hRm kc2 rfl kw_1867 kw_14 kw_1864 kw_1866 kp_109 hyX10_needs (Nat.le_of_ble_eq_true rfl) (Nat.le_of_ble_eq_true rfl) rfl rfl (Nat.le_of_ble_eq_true rfl) dX10_numberBehind_7 ?_
  refine z_aload_n C dX10_numberBehind_10 rfl 0 rfl ?_
  obtain ⟨c3, hc3, hf⟩ := zbind hf
  obtain ⟨kc3, hc3⟩ := zck_ok hc3
  refine z_callVv (As := []) (F0 := 8) (L0 := 172) C (mX10_goOn l D Ca B En C.2.2.2.2.2.2.2.1 ev hZ c2 N x0  _ hc3) hRm kc3 rfl kw_1871 kw_14 kw_1868 kw_1870 kp_110 hyX10_goOn (Nat.le_of_ble_eq_true rfl) (Nat.le_of_ble_eq_true rfl) rfl rfl (Nat.le_of_ble_eq_true rfl) dX10_numberBehind_11 ?_
  refine z_aload_n C dX10_numberBehind_14 rfl 0 rfl ?_
  refine z_iload_n C dX10_numberBehind_15 rfl 2 rfl ?_
  refine z_iload_n C dX10_numberBehind_16 rfl 3 rfl ?_
  obtain ⟨c4, hc4, hf⟩ := zbind hf
  obtain ⟨kc4, hc4⟩ := zck_ok hc4
  refine z_callVi (As := [.int x2, .int x3]) (F0 := 8) (L0 := 172) C (mX10_number l D Ca B En C.2.2.2.2.2.2.2.1 ev hZ c3 N x0 x2 x3 _ hc4) hRm kc4 rfl kw_1888 kw_14 kw_1885 kw_1887 kp_113 hyX10_number (Nat.le_of_ble_eq_true rfl) (Nat.le_of_ble_eq_true rfl) rfl rfl (Nat.le_of_ble_eq_true rfl) dX10_numberBehind_17 ?_
  cases hf
  exact hq _ _ dX10_numberBehind_20

theorem mX10_numberBehind (l : Launch) (D : va_G) (Ca : Nat → ClassId) (B : Nat) (En : State → Prop) (hE : zEk B En) (ev : zEv) (hZ : ∀ U : State, En U → zEnv ev B U) (σ : zS) (N : Nat) (x0 : Nat) (x1 : Int32) (x2 : Int32) (x3 : Int32) (X : zS × Int32) (hf : fX10_numberBehind σ x0 x1 x2 x3 = some X) : zMi l D Ca B En yX10_numberBehind cX10_numberBehind 4 (Option.some Jvm.ClassFile.FieldType.int) 8 172 [.ref x0, .int x1, .int x2, .int x3] σ N X.1 X.2 :=
  zMet_i (own := RX10) hE (by decide +kernel) rfl (Nat.le_of_ble_eq_true rfl) (fun p e s m args below meth c C hr hRm => wfX10_numberBehind C hRm ev hZ σ x0 x1 x2 x3 X.1 X.2 hf (fun pc lv hd => zfin_i C hr hd))
theorem dX10_nameHere_0 : decode cX10_nameHere 0 = .ok (.lconst 0, 1) := by decide +kernel
theorem dX10_nameHere_1 : decode cX10_nameHere 1 = .ok (.lstore_n 1, 1) := by decide +kernel
theorem dX10_nameHere_2 : decode cX10_nameHere 2 = .ok (.aload_n 0, 1) := by decide +kernel
theorem dX10_nameHere_3 : decode cX10_nameHere 3 = .ok (.getfield 369, 3) := by decide +kernel
theorem dX10_nameHere_6 : decode cX10_nameHere 6 = .ok (.istore_n 3, 1) := by decide +kernel
theorem dX10_nameHere_7 : decode cX10_nameHere 7 = .ok (.iload_n 3, 1) := by decide +kernel
theorem dX10_nameHere_8 : decode cX10_nameHere 8 = .ok (.aload_n 0, 1) := by decide +kernel
theorem dX10_nameHere_9 : decode cX10_nameHere 9 = .ok (.getfield 363, 3) := by decide +kernel
theorem dX10_nameHere_12 : decode cX10_nameHere 12 = .ok (.if_icmp .ge 27, 3) := by decide +kernel
theorem dX10_nameHere_15 : decode cX10_nameHere 15 = .ok (.ldc2_w 424, 3) := by decide +kernel
theorem dX10_nameHere_18 : decode cX10_nameHere 18 = .ok (.lload_n 1, 1) := by decide +kernel
theorem dX10_nameHere_19 : decode cX10_nameHere 19 = .ok (.lmul, 1) := by decide +kernel
theorem dX10_nameHere_20 : decode cX10_nameHere 20 = .ok (.aload_n 0, 1) := by decide +kernel
theorem dX10_nameHere_21 : decode cX10_nameHere 21 = .ok (.getfield 40, 3) := by decide +kernel
theorem dX10_nameHere_24 : decode cX10_nameHere 24 = .ok (.iload_n 3, 1) := by decide +kernel
theorem dX10_nameHere_25 : decode cX10_nameHere 25 = .ok (.baload, 1) := by decide +kernel
theorem dX10_nameHere_26 : decode cX10_nameHere 26 = .ok (.i2l, 1) := by decide +kernel
theorem dX10_nameHere_27 : decode cX10_nameHere 27 = .ok (.ladd, 1) := by decide +kernel
theorem dX10_nameHere_28 : decode cX10_nameHere 28 = .ok (.ldc2_w 426, 3) := by decide +kernel
theorem dX10_nameHere_31 : decode cX10_nameHere 31 = .ok (.lsub, 1) := by decide +kernel
theorem dX10_nameHere_32 : decode cX10_nameHere 32 = .ok (.lstore_n 1, 1) := by decide +kernel
theorem dX10_nameHere_33 : decode cX10_nameHere 33 = .ok (.iinc 3 1, 3) := by decide +kernel
theorem dX10_nameHere_36 : decode cX10_nameHere 36 = .ok (.goto (-29), 3) := by decide +kernel
theorem dX10_nameHere_39 : decode cX10_nameHere 39 = .ok (.lload_n 1, 1) := by decide +kernel
theorem dX10_nameHere_40 : decode cX10_nameHere 40 = .ok (.lreturn, 1) := by decide +kernel
theorem hyX10_nameHere : yX10_nameHere.cls ≠ "java/lang/invoke/MethodHandle" ∧ yX10_nameHere.cls ≠ "java/lang/invoke/VarHandle" ∧ (parseMethodDescriptor yX10_nameHere.desc).map (fun d => d.parameters.length) = some 0 := ⟨by decide +kernel, by decide +kernel, by decide +kernel⟩
def sX10_nameHere_7b (x0 : Nat) (σ : zS) (u1 : Int64) (u3 : Int32) : Option ((zS × Int64 × Int32) ⊕ (zS × Int64)) :=
  (zgI 9 17 σ x0).bind fun v2 => (if v2 ≤ u3 then some (.inr (σ, u1)) else (zgR 9 14 σ x0).bind fun v3 => (zaB σ v3 u3).bind fun v4 => some (.inl (σ, ((27 * u1) + v4.toInt64) - 96, u3 + 1)))
def sX10_nameHere_7 (x0 : Nat) (z : (zS × Int64 × Int32)) : Option ((zS × Int64 × Int32) ⊕ (zS × Int64)) := sX10_nameHere_7b x0 z.1 z.2.1 z.2.2
set_option maxRecDepth 100000 in
set_option maxHeartbeats 4000000 in
theorem wsX10_nameHere_7b (C : zC p s m args meth c cX10_nameHere RX10 4 D Ca B En) (hRm : zRm R 0 0 cells slots) (x0 : Nat) (σ : zS) (u1 : Int64) (u3 : Int32) (y : (zS × Int64 × Int32) ⊕ (zS × Int64)) (hf : sX10_nameHere_7b x0 σ u1 u3 = some y) (hk : (∀ z : (zS × Int64 × Int32), y = .inl z → zW p l e R s m args below meth c cells slots Q D Ca B 4 z.1 N 7 [(0, .ref x0), (1, .long z.2.1), (3, .int z.2.2)] []) ∧ (∀ z : (zS × Int64), y = .inr z → zW p l e R s m args below meth c cells slots Q D Ca B 4 z.1 N 39 [(1, .long z.2)] [])) : zW p l e R s m args below meth c cells slots Q D Ca B 4 σ N 7 [(0, .ref x0), (1, .long u1), (3, .int u3)] [] := by
  unfold sX10_nameHere_7b at hf
  refine z_iload_n C dX10_nameHere_7 rfl 2 rfl ?_
  refine z_aload_n C dX10_nameHere_8 rfl 0 rfl ?_
  obtain ⟨v2, hv2, hf⟩ := zbind hf
  refine gf_RX10_363 C hv2 dX10_nameHere_9 ?_
  refine z_icmp_ge C 39 dX10_nameHere_12 (by decide) (fun q5 => ?_) (fun q5 => ?_)
  · rw [if_pos q5] at hf
    cases hf
    refine z_sub [1] rfl ?_
    exact hk.2 _ rfl
  · rw [if_neg q5] at hf
    refine z_ldc2 C kw_1876 dX10_nameHere_15 ?_
    refine z_lload_n C dX10_nameHere_18 rfl 1 rfl ?_
    refine z_lmul C dX10_nameHere_19 ?_
    refine z_aload_n C dX10_nameHere_20 rfl 0 rfl ?_
    obtain ⟨v3, hv3, hf⟩ := zbind hf
    refine gf_RX10_40 C hv3 dX10_nameHere_21 ?_
    refine z_iload_n C dX10_nameHere_24 rfl 2 rfl ?_
    obtain ⟨v4, hv4, hf⟩ := zbind hf
    refine z_aB C hv4 dX10_nameHere_25 ?_
    refine z_i2l C dX10_nameHere_26 ?_
    refine z_ladd C dX10_nameHere_27 ?_
    refine z_ldc2 C kw_1877 dX10_nameHere_28 ?_
    refine z_lsub C dX10_nameHere_31 ?_
    refine z_lstore_n (lv2 := [(1, .long (((27 * u1) + v4.toInt64) - 96)), (0, .ref x0), (3, .int u3)]) C dX10_nameHere_32 rfl (by decide) rfl ?_
    refine z_iinc (lv2 := [(3, .int (u3 + 1)), (1, .long (((27 * u1) + v4.toInt64) - 96)), (0, .ref x0)]) C (u3 + 1) dX10_nameHere_33 2 rfl rfl (by decide) rfl ?_
    refine z_goto C 7 dX10_nameHere_36 (by decide) ?_
    cases hf
    refine z_sub [2, 1, 0] rfl ?_
    exact hk.1 _ rfl

theorem wsX10_nameHere_7 (C : zC p s m args meth c cX10_nameHere RX10 4 D Ca B En) (hRm : zRm R 0 0 cells slots) (x0 : Nat) (n : Nat) (z : (zS × Int64 × Int32)) (x : (zS × Int64)) (hf : zloop (sX10_nameHere_7 x0) n z = some x) (hk : (∀ o : (zS × Int64), x = o → zW p l e R s m args below meth c cells slots Q D Ca B 4 o.1 N 39 [(1, .long o.2)] [])) : zW p l e R s m args below meth c cells slots Q D Ca B 4 z.1 N 7 [(0, .ref x0), (1, .long z.2.1), (3, .int z.2.2)] [] := by
  refine zloop_W (P := fun z : (zS × Int64 × Int32) => zW p l e R s m args below meth c cells slots Q D Ca B 4 z.1 N 7 [(0, .ref x0), (1, .long z.2.1), (3, .int z.2.2)] []) (K := fun x : (zS × Int64) => (∀ o : (zS × Int64), x = o → zW p l e R s m args below meth c cells slots Q D Ca B 4 o.1 N 39 [(1, .long o.2)] [])) ?_ n z x hf hk
  intro z y hy h1 h2
  refine wsX10_nameHere_7b C hRm x0 z.1 z.2.1 z.2.2 y hy ⟨fun z2 e => h1 z2 e, fun o e => (h2 _ e) o rfl⟩
def fX10_nameHere (σ : zS) (x0 : Nat) : Option (zS × Int64) :=
  (zgI 9 18 σ x0).bind fun v1 => (zloop (sX10_nameHere_7 x0) zfuel (σ, 0, v1)).bind fun o6 => some (o6.1, o6.2)
set_option maxRecDepth 100000 in
set_option maxHeartbeats 4000000 in
theorem wfX10_nameHere (C : zC p s m args meth c cX10_nameHere RX10 4 D Ca B En) (hRm : zRm R 0 0 cells slots) (σ : zS) (x0 : Nat) (τ : zS) (r : Int64) (hf : fX10_nameHere σ x0 = some (τ, r)) (hq : ∀ (pc : Nat) (lv : List (Nat × Value)), decode cX10_nameHere pc = .ok (.lreturn, 1) → zW p l e R s m args below meth c cells slots Q D Ca B 4 τ N pc lv [.long r]) : zW p l e R s m args below meth c cells slots Q D Ca B 4 σ N 0 [(0, .ref x0)] [] := by
  unfold fX10_nameHere at hf
  refine z_lconst C 0 dX10_nameHere_0 (by decide) ?_
  refine z_lstore_n (lv2 := [(1, .long 0), (0, .ref x0)]) C dX10_nameHere_1 rfl (by decide) rfl ?_
  refine z_aload_n C dX10_nameHere_2 rfl 1 rfl ?_
  obtain ⟨v1, hv1, hf⟩ := zbind hf
  refine gf_RX10_369 C hv1 dX10_nameHere_3 ?_
  refine z_istore_n (lv2 := [(3, .int v1), (1, .long 0), (0, .ref x0)]) C dX10_nameHere_6 rfl (by decide) rfl ?_
  obtain ⟨o6, ho6, hf⟩ := zbind hf
  refine z_sub [2, 1, 0] rfl ?_
  refine wsX10_nameHere_7 C hRm _ zfuel (σ, 0, v1) o6 ho6 ?_
  intro z9 e9
  subst e9
  refine z_lload_n C dX10_nameHere_39 rfl 0 rfl ?_
  cases hf
  exact hq _ _ dX10_nameHere_40

theorem mX10_nameHere (l : Launch) (D : va_G) (Ca : Nat → ClassId) (B : Nat) (En : State → Prop) (hE : zEk B En) (σ : zS) (N : Nat) (x0 : Nat) (X : zS × Int64) (hf : fX10_nameHere σ x0 = some X) : zMl l D Ca B En yX10_nameHere cX10_nameHere 4 (Option.some Jvm.ClassFile.FieldType.long) 0 0 [.ref x0] σ N X.1 X.2 :=
  zMet_l (own := RX10) hE (by decide +kernel) rfl (Nat.le_of_ble_eq_true rfl) (fun p e s m args below meth c C hr hRm => wfX10_nameHere C hRm σ x0 X.1 X.2 hf (fun pc lv hd => zfin_l C hr hd))
theorem dX10_placeOf_0 : decode cX10_placeOf 0 = .ok (.iconst 0, 1) := by decide +kernel
theorem dX10_placeOf_1 : decode cX10_placeOf 1 = .ok (.istore 4, 2) := by decide +kernel
theorem dX10_placeOf_3 : decode cX10_placeOf 3 = .ok (.iload 4, 2) := by decide +kernel
theorem dX10_placeOf_5 : decode cX10_placeOf 5 = .ok (.iload_n 3, 1) := by decide +kernel
theorem dX10_placeOf_6 : decode cX10_placeOf 6 = .ok (.if_icmp .ge 21, 3) := by decide +kernel
theorem dX10_placeOf_9 : decode cX10_placeOf 9 = .ok (.aload_n 2, 1) := by decide +kernel
theorem dX10_placeOf_10 : decode cX10_placeOf 10 = .ok (.iload 4, 2) := by decide +kernel
theorem dX10_placeOf_12 : decode cX10_placeOf 12 = .ok (.laload, 1) := by decide +kernel
theorem dX10_placeOf_13 : decode cX10_placeOf 13 = .ok (.lload_n 0, 1) := by decide +kernel
theorem dX10_placeOf_14 : decode cX10_placeOf 14 = .ok (.lcmp, 1) := by decide +kernel
theorem dX10_placeOf_15 : decode cX10_placeOf 15 = .ok (.ifCond .ne 6, 3) := by decide +kernel
theorem dX10_placeOf_18 : decode cX10_placeOf 18 = .ok (.iload 4, 2) := by decide +kernel
theorem dX10_placeOf_20 : decode cX10_placeOf 20 = .ok (.ireturn, 1) := by decide +kernel
theorem dX10_placeOf_21 : decode cX10_placeOf 21 = .ok (.iinc 4 1, 3) := by decide +kernel
theorem dX10_placeOf_24 : decode cX10_placeOf 24 = .ok (.goto (-21), 3) := by decide +kernel
theorem dX10_placeOf_27 : decode cX10_placeOf 27 = .ok (.iconst (-1), 1) := by decide +kernel
theorem dX10_placeOf_28 : decode cX10_placeOf 28 = .ok (.ireturn, 1) := by decide +kernel
theorem hyX10_placeOf : yX10_placeOf.cls ≠ "java/lang/invoke/MethodHandle" ∧ yX10_placeOf.cls ≠ "java/lang/invoke/VarHandle" ∧ (parseMethodDescriptor yX10_placeOf.desc).map (fun d => d.parameters.length) = some 3 := ⟨by decide +kernel, by decide +kernel, by decide +kernel⟩
def sX10_placeOf_3b (x0 : Int64) (x2 : Nat) (x3 : Int32) (σ : zS) (u4 : Int32) : Option ((zS × Int32) ⊕ ((zS × Int32) ⊕ zS)) :=
  (if x3 ≤ u4 then some (.inr (.inr σ)) else (zaJ σ x2 u4).bind fun v1 => (if (lg_cmp v1 x0) = 0 then some (.inr (.inl (σ, u4))) else some (.inl (σ, u4 + 1))))
def sX10_placeOf_3 (x0 : Int64) (x2 : Nat) (x3 : Int32) (z : (zS × Int32)) : Option ((zS × Int32) ⊕ ((zS × Int32) ⊕ zS)) := sX10_placeOf_3b x0 x2 x3 z.1 z.2
set_option maxRecDepth 100000 in
set_option maxHeartbeats 4000000 in
theorem wsX10_placeOf_3b (C : zC p s m args meth c cX10_placeOf RX10 5 D Ca B En) (hRm : zRm R 0 0 cells slots) (x0 : Int64) (x2 : Nat) (x3 : Int32) (σ : zS) (u4 : Int32) (y : (zS × Int32) ⊕ ((zS × Int32) ⊕ zS)) (hf : sX10_placeOf_3b x0 x2 x3 σ u4 = some y) (hk : (∀ z : (zS × Int32), y = .inl z → zW p l e R s m args below meth c cells slots Q D Ca B 5 z.1 N 3 [(0, .long x0), (2, .ref x2), (3, .int x3), (4, .int z.2)] []) ∧ (∀ z : (zS × Int32), y = .inr (.inl z) → zW p l e R s m args below meth c cells slots Q D Ca B 5 z.1 N 18 [(4, .int z.2)] []) ∧ (∀ z : zS, y = .inr (.inr z) → zW p l e R s m args below meth c cells slots Q D Ca B 5 z N 27 [] [])) : zW p l e R s m args below meth c cells slots Q D Ca B 5 σ N 3 [(0, .long x0), (2, .ref x2), (3, .int x3), (4, .int u4)] [] := by
  unfold sX10_placeOf_3b at hf
  refine z_iload C dX10_placeOf_3 3 rfl ?_
  refine z_iload_n C dX10_placeOf_5 rfl 2 rfl ?_
  refine z_icmp_ge C 27 dX10_placeOf_6 (by decide) (fun q3 => ?_) (fun q3 => ?_)
  · rw [if_pos q3] at hf
    cases hf
    refine z_sub [] rfl ?_
    exact hk.2.2 _ rfl
  · rw [if_neg q3] at hf
    refine z_aload_n C dX10_placeOf_9 rfl 1 rfl ?_
    refine z_iload C dX10_placeOf_10 3 rfl ?_
    obtain ⟨v1, hv1, hf⟩ := zbind hf
    refine z_aJ C hv1 dX10_placeOf_12 ?_
    refine z_lload_n C dX10_placeOf_13 rfl 0 rfl ?_
    refine z_lcmp C dX10_placeOf_14 ?_
    refine z_if_ne C 21 dX10_placeOf_15 (by decide) (fun q2 => ?_) (fun q2 => ?_)
    · rw [if_neg q2] at hf
      refine z_iinc (lv2 := [(4, .int (u4 + 1)), (0, .long x0), (2, .ref x2), (3, .int x3)]) C (u4 + 1) dX10_placeOf_21 3 rfl rfl (by decide) rfl ?_
      refine z_goto C 3 dX10_placeOf_24 (by decide) ?_
      cases hf
      refine z_sub [1, 2, 3, 0] rfl ?_
      exact hk.1 _ rfl
    · rw [if_pos q2] at hf
      cases hf
      refine z_sub [3] rfl ?_
      exact hk.2.1 _ rfl

theorem wsX10_placeOf_3 (C : zC p s m args meth c cX10_placeOf RX10 5 D Ca B En) (hRm : zRm R 0 0 cells slots) (x0 : Int64) (x2 : Nat) (x3 : Int32) (n : Nat) (z : (zS × Int32)) (x : ((zS × Int32) ⊕ zS)) (hf : zloop (sX10_placeOf_3 x0 x2 x3) n z = some x) (hk : (∀ o : (zS × Int32), x = (.inl o) → zW p l e R s m args below meth c cells slots Q D Ca B 5 o.1 N 18 [(4, .int o.2)] []) ∧ (∀ o : zS, x = (.inr o) → zW p l e R s m args below meth c cells slots Q D Ca B 5 o N 27 [] [])) : zW p l e R s m args below meth c cells slots Q D Ca B 5 z.1 N 3 [(0, .long x0), (2, .ref x2), (3, .int x3), (4, .int z.2)] [] := by
  refine zloop_W (P := fun z : (zS × Int32) => zW p l e R s m args below meth c cells slots Q D Ca B 5 z.1 N 3 [(0, .long x0), (2, .ref x2), (3, .int x3), (4, .int z.2)] []) (K := fun x : ((zS × Int32) ⊕ zS) => (∀ o : (zS × Int32), x = (.inl o) → zW p l e R s m args below meth c cells slots Q D Ca B 5 o.1 N 18 [(4, .int o.2)] []) ∧ (∀ o : zS, x = (.inr o) → zW p l e R s m args below meth c cells slots Q D Ca B 5 o N 27 [] [])) ?_ n z x hf hk
  intro z y hy h1 h2
  refine wsX10_placeOf_3b C hRm x0 x2 x3 z.1 z.2 y hy ⟨fun z2 e => h1 z2 e, fun o e => (h2 _ e).1 o rfl, fun o e => (h2 _ e).2 o rfl⟩
def fX10_placeOf (σ : zS) (x0 : Int64) (x2 : Nat) (x3 : Int32) : Option (zS × Int32) :=
  (zloop (sX10_placeOf_3 x0 x2 x3) zfuel (σ, 0)).bind fun o4 => (match o4 with | (.inl z5) => some (z5.1, z5.2) | (.inr z6) => some (z6, (-1)))
set_option maxRecDepth 100000 in
set_option maxHeartbeats 4000000 in
theorem wfX10_placeOf (C : zC p s m args meth c cX10_placeOf RX10 5 D Ca B En) (hRm : zRm R 0 0 cells slots) (σ : zS) (x0 : Int64) (x2 : Nat) (x3 : Int32) (τ : zS) (r : Int32) (hf : fX10_placeOf σ x0 x2 x3 = some (τ, r)) (hq : ∀ (pc : Nat) (lv : List (Nat × Value)), decode cX10_placeOf pc = .ok (.ireturn, 1) → zW p l e R s m args below meth c cells slots Q D Ca B 5 τ N pc lv [.int r]) : zW p l e R s m args below meth c cells slots Q D Ca B 5 σ N 0 [(0, .long x0), (2, .ref x2), (3, .int x3)] [] := by
  unfold fX10_placeOf at hf
  refine z_iconst C 0 dX10_placeOf_0 (by decide) ?_
  refine z_istore (lv2 := [(4, .int 0), (0, .long x0), (2, .ref x2), (3, .int x3)]) C dX10_placeOf_1 (by decide) rfl ?_
  obtain ⟨o4, ho4, hf⟩ := zbind hf
  refine z_sub [1, 2, 3, 0] rfl ?_
  refine wsX10_placeOf_3 C hRm _ _ _ zfuel (σ, 0) o4 ho4 ⟨?_, ?_⟩
  · intro z5 e9
    subst e9
    dsimp only at hf
    refine z_iload C dX10_placeOf_18 0 rfl ?_
    cases hf
    exact hq _ _ dX10_placeOf_20
  · intro z6 e9
    subst e9
    dsimp only at hf
    refine z_iconst C (-1) dX10_placeOf_27 (by decide) ?_
    cases hf
    exact hq _ _ dX10_placeOf_28

theorem mX10_placeOf (l : Launch) (D : va_G) (Ca : Nat → ClassId) (B : Nat) (En : State → Prop) (hE : zEk B En) (σ : zS) (N : Nat) (x0 : Int64) (x2 : Nat) (x3 : Int32) (X : zS × Int32) (hf : fX10_placeOf σ x0 x2 x3 = some X) : zMi l D Ca B En yX10_placeOf cX10_placeOf 5 (Option.some Jvm.ClassFile.FieldType.int) 0 0 [.long x0, .ref x2, .int x3] σ N X.1 X.2 :=
  zMet_i (own := RX10) hE (by decide +kernel) rfl (Nat.le_of_ble_eq_true rfl) (fun p e s m args below meth c C hr hRm => wfX10_placeOf C hRm σ x0 x2 x3 X.1 X.2 hf (fun pc lv hd => zfin_i C hr hd))
theorem dX10_readsSource_0 : decode cX10_readsSource 0 = .ok (.aload_n 0, 1) := by decide +kernel
theorem dX10_readsSource_1 : decode cX10_readsSource 1 = .ok (.getfield 63, 3) := by decide +kernel
theorem dX10_readsSource_4 : decode cX10_readsSource 4 = .ok (.istore_n 1, 1) := by decide +kernel
theorem dX10_readsSource_5 : decode cX10_readsSource 5 = .ok (.aload_n 0, 1) := by decide +kernel
theorem dX10_readsSource_6 : decode cX10_readsSource 6 = .ok (.iload_n 1, 1) := by decide +kernel
theorem dX10_readsSource_7 : decode cX10_readsSource 7 = .ok (.iconst 4, 1) := by decide +kernel
theorem dX10_readsSource_8 : decode cX10_readsSource 8 = .ok (.if_icmp .ge 7, 3) := by decide +kernel
theorem dX10_readsSource_11 : decode cX10_readsSource 11 = .ok (.iconst 1, 1) := by decide +kernel
theorem dX10_readsSource_12 : decode cX10_readsSource 12 = .ok (.goto 4, 3) := by decide +kernel
theorem dX10_readsSource_15 : decode cX10_readsSource 15 = .ok (.iconst 0, 1) := by decide +kernel
theorem dX10_readsSource_16 : decode cX10_readsSource 16 = .ok (.iconst 4, 1) := by decide +kernel
theorem dX10_readsSource_17 : decode cX10_readsSource 17 = .ok (.invokevirtual 411, 3) := by decide +kernel
theorem dX10_readsSource_20 : decode cX10_readsSource 20 = .ok (.aload_n 0, 1) := by decide +kernel
theorem dX10_readsSource_21 : decode cX10_readsSource 21 = .ok (.invokevirtual 415, 3) := by decide +kernel
theorem dX10_readsSource_24 : decode cX10_readsSource 24 = .ok (.aload_n 0, 1) := by decide +kernel
theorem dX10_readsSource_25 : decode cX10_readsSource 25 = .ok (.aload_n 0, 1) := by decide +kernel
theorem dX10_readsSource_26 : decode cX10_readsSource 26 = .ok (.getfield 372, 3) := by decide +kernel
theorem dX10_readsSource_29 : decode cX10_readsSource 29 = .ok (.iconst 1, 1) := by decide +kernel
theorem dX10_readsSource_30 : decode cX10_readsSource 30 = .ok (.if_icmp .ne 29, 3) := by decide +kernel
theorem dX10_readsSource_33 : decode cX10_readsSource 33 = .ok (.aload_n 0, 1) := by decide +kernel
theorem dX10_readsSource_34 : decode cX10_readsSource 34 = .ok (.getfield 382, 3) := by decide +kernel
theorem dX10_readsSource_37 : decode cX10_readsSource 37 = .ok (.iconst (-1), 1) := by decide +kernel
theorem dX10_readsSource_38 : decode cX10_readsSource 38 = .ok (.if_icmp .ne 21, 3) := by decide +kernel
theorem dX10_readsSource_41 : decode cX10_readsSource 41 = .ok (.aload_n 0, 1) := by decide +kernel
theorem dX10_readsSource_42 : decode cX10_readsSource 42 = .ok (.getfield 363, 3) := by decide +kernel
theorem dX10_readsSource_45 : decode cX10_readsSource 45 = .ok (.aload_n 0, 1) := by decide +kernel
theorem dX10_readsSource_46 : decode cX10_readsSource 46 = .ok (.getfield 369, 3) := by decide +kernel
theorem dX10_readsSource_49 : decode cX10_readsSource 49 = .ok (.isub, 1) := by decide +kernel
theorem dX10_readsSource_50 : decode cX10_readsSource 50 = .ok (.bipush 8, 2) := by decide +kernel
theorem dX10_readsSource_52 : decode cX10_readsSource 52 = .ok (.if_icmp .gt 7, 3) := by decide +kernel
theorem dX10_readsSource_55 : decode cX10_readsSource 55 = .ok (.iconst 1, 1) := by decide +kernel
theorem dX10_readsSource_56 : decode cX10_readsSource 56 = .ok (.goto 4, 3) := by decide +kernel
theorem dX10_readsSource_59 : decode cX10_readsSource 59 = .ok (.iconst 0, 1) := by decide +kernel
theorem dX10_readsSource_60 : decode cX10_readsSource 60 = .ok (.iconst 1, 1) := by decide +kernel
theorem dX10_readsSource_61 : decode cX10_readsSource 61 = .ok (.invokevirtual 411, 3) := by decide +kernel
theorem dX10_readsSource_64 : decode cX10_readsSource 64 = .ok (.aload_n 0, 1) := by decide +kernel
theorem dX10_readsSource_65 : decode cX10_readsSource 65 = .ok (.invokevirtual 405, 3) := by decide +kernel
theorem dX10_readsSource_68 : decode cX10_readsSource 68 = .ok (.ifCond .ne 4, 3) := by decide +kernel
theorem dX10_readsSource_71 : decode cX10_readsSource 71 = .ok (.return_, 1) := by decide +kernel
theorem dX10_readsSource_72 : decode cX10_readsSource 72 = .ok (.aload_n 0, 1) := by decide +kernel
theorem dX10_readsSource_73 : decode cX10_readsSource 73 = .ok (.aload_n 0, 1) := by decide +kernel
theorem dX10_readsSource_74 : decode cX10_readsSource 74 = .ok (.invokevirtual 428, 3) := by decide +kernel
theorem dX10_readsSource_77 : decode cX10_readsSource 77 = .ok (.aload_n 0, 1) := by decide +kernel
theorem dX10_readsSource_78 : decode cX10_readsSource 78 = .ok (.getfield 54, 3) := by decide +kernel
theorem dX10_readsSource_81 : decode cX10_readsSource 81 = .ok (.iload_n 1, 1) := by decide +kernel
theorem dX10_readsSource_82 : decode cX10_readsSource 82 = .ok (.invokestatic 432, 3) := by decide +kernel
theorem dX10_readsSource_85 : decode cX10_readsSource 85 = .ok (.iconst (-1), 1) := by decide +kernel
theorem dX10_readsSource_86 : decode cX10_readsSource 86 = .ok (.if_icmp .ne 7, 3) := by decide +kernel
theorem dX10_readsSource_89 : decode cX10_readsSource 89 = .ok (.iconst 1, 1) := by decide +kernel
theorem dX10_readsSource_90 : decode cX10_readsSource 90 = .ok (.goto 4, 3) := by decide +kernel
theorem dX10_readsSource_93 : decode cX10_readsSource 93 = .ok (.iconst 0, 1) := by decide +kernel
theorem dX10_readsSource_94 : decode cX10_readsSource 94 = .ok (.iconst 3, 1) := by decide +kernel
theorem dX10_readsSource_95 : decode cX10_readsSource 95 = .ok (.invokevirtual 411, 3) := by decide +kernel
theorem dX10_readsSource_98 : decode cX10_readsSource 98 = .ok (.aload_n 0, 1) := by decide +kernel
theorem dX10_readsSource_99 : decode cX10_readsSource 99 = .ok (.invokevirtual 405, 3) := by decide +kernel
theorem dX10_readsSource_102 : decode cX10_readsSource 102 = .ok (.ifCond .eq 13, 3) := by decide +kernel
theorem dX10_readsSource_105 : decode cX10_readsSource 105 = .ok (.aload_n 0, 1) := by decide +kernel
theorem dX10_readsSource_106 : decode cX10_readsSource 106 = .ok (.getfield 54, 3) := by decide +kernel
theorem dX10_readsSource_109 : decode cX10_readsSource 109 = .ok (.iload_n 1, 1) := by decide +kernel
theorem dX10_readsSource_110 : decode cX10_readsSource 110 = .ok (.aload_n 0, 1) := by decide +kernel
theorem dX10_readsSource_111 : decode cX10_readsSource 111 = .ok (.invokevirtual 428, 3) := by decide +kernel
theorem dX10_readsSource_114 : decode cX10_readsSource 114 = .ok (.lastore, 1) := by decide +kernel
theorem dX10_readsSource_115 : decode cX10_readsSource 115 = .ok (.aload_n 0, 1) := by decide +kernel
theorem dX10_readsSource_116 : decode cX10_readsSource 116 = .ok (.invokevirtual 415, 3) := by decide +kernel
theorem dX10_readsSource_119 : decode cX10_readsSource 119 = .ok (.aload_n 0, 1) := by decide +kernel
theorem dX10_readsSource_120 : decode cX10_readsSource 120 = .ok (.bipush 6, 2) := by decide +kernel
theorem dX10_readsSource_122 : decode cX10_readsSource 122 = .ok (.iconst 0, 1) := by decide +kernel
theorem dX10_readsSource_123 : decode cX10_readsSource 123 = .ok (.sipush 200, 3) := by decide +kernel
theorem dX10_readsSource_126 : decode cX10_readsSource 126 = .ok (.invokevirtual 436, 3) := by decide +kernel
theorem dX10_readsSource_129 : decode cX10_readsSource 129 = .ok (.istore_n 2, 1) := by decide +kernel
theorem dX10_readsSource_130 : decode cX10_readsSource 130 = .ok (.aload_n 0, 1) := by decide +kernel
theorem dX10_readsSource_131 : decode cX10_readsSource 131 = .ok (.bipush 7, 2) := by decide +kernel
theorem dX10_readsSource_133 : decode cX10_readsSource 133 = .ok (.iconst 0, 1) := by decide +kernel
theorem dX10_readsSource_134 : decode cX10_readsSource 134 = .ok (.sipush 999, 3) := by decide +kernel
theorem dX10_readsSource_137 : decode cX10_readsSource 137 = .ok (.invokevirtual 436, 3) := by decide +kernel
theorem dX10_readsSource_140 : decode cX10_readsSource 140 = .ok (.istore_n 3, 1) := by decide +kernel
theorem dX10_readsSource_141 : decode cX10_readsSource 141 = .ok (.aload_n 0, 1) := by decide +kernel
theorem dX10_readsSource_142 : decode cX10_readsSource 142 = .ok (.bipush 8, 2) := by decide +kernel
theorem dX10_readsSource_144 : decode cX10_readsSource 144 = .ok (.invokevirtual 418, 3) := by decide +kernel
theorem dX10_readsSource_147 : decode cX10_readsSource 147 = .ok (.ifCond .eq 15, 3) := by decide +kernel
theorem dX10_readsSource_150 : decode cX10_readsSource 150 = .ok (.aload_n 0, 1) := by decide +kernel
theorem dX10_readsSource_151 : decode cX10_readsSource 151 = .ok (.bipush 8, 2) := by decide +kernel
theorem dX10_readsSource_153 : decode cX10_readsSource 153 = .ok (.iconst 0, 1) := by decide +kernel
theorem dX10_readsSource_154 : decode cX10_readsSource 154 = .ok (.bipush 9, 2) := by decide +kernel
theorem dX10_readsSource_156 : decode cX10_readsSource 156 = .ok (.invokevirtual 436, 3) := by decide +kernel
theorem dX10_readsSource_159 : decode cX10_readsSource 159 = .ok (.goto 4, 3) := by decide +kernel
theorem dX10_readsSource_162 : decode cX10_readsSource 162 = .ok (.iconst 0, 1) := by decide +kernel
theorem dX10_readsSource_163 : decode cX10_readsSource 163 = .ok (.istore 4, 2) := by decide +kernel
theorem dX10_readsSource_165 : decode cX10_readsSource 165 = .ok (.aload_n 0, 1) := by decide +kernel
theorem dX10_readsSource_166 : decode cX10_readsSource 166 = .ok (.invokevirtual 405, 3) := by decide +kernel
theorem dX10_readsSource_169 : decode cX10_readsSource 169 = .ok (.ifCond .ne 4, 3) := by decide +kernel
theorem dX10_readsSource_172 : decode cX10_readsSource 172 = .ok (.return_, 1) := by decide +kernel
theorem dX10_readsSource_173 : decode cX10_readsSource 173 = .ok (.aload_n 0, 1) := by decide +kernel
theorem dX10_readsSource_174 : decode cX10_readsSource 174 = .ok (.getfield 48, 3) := by decide +kernel
theorem dX10_readsSource_177 : decode cX10_readsSource 177 = .ok (.iload_n 1, 1) := by decide +kernel
theorem dX10_readsSource_178 : decode cX10_readsSource 178 = .ok (.iload_n 2, 1) := by decide +kernel
theorem dX10_readsSource_179 : decode cX10_readsSource 179 = .ok (.iastore, 1) := by decide +kernel
theorem dX10_readsSource_180 : decode cX10_readsSource 180 = .ok (.aload_n 0, 1) := by decide +kernel
theorem dX10_readsSource_181 : decode cX10_readsSource 181 = .ok (.getfield 51, 3) := by decide +kernel
theorem dX10_readsSource_184 : decode cX10_readsSource 184 = .ok (.iload_n 1, 1) := by decide +kernel
theorem dX10_readsSource_185 : decode cX10_readsSource 185 = .ok (.iload_n 3, 1) := by decide +kernel
theorem dX10_readsSource_186 : decode cX10_readsSource 186 = .ok (.iastore, 1) := by decide +kernel
theorem dX10_readsSource_187 : decode cX10_readsSource 187 = .ok (.aload_n 0, 1) := by decide +kernel
theorem dX10_readsSource_188 : decode cX10_readsSource 188 = .ok (.getfield 24, 3) := by decide +kernel
theorem dX10_readsSource_191 : decode cX10_readsSource 191 = .ok (.bipush 9, 2) := by decide +kernel
theorem dX10_readsSource_193 : decode cX10_readsSource 193 = .ok (.iload_n 1, 1) := by decide +kernel
theorem dX10_readsSource_194 : decode cX10_readsSource 194 = .ok (.iadd, 1) := by decide +kernel
theorem dX10_readsSource_195 : decode cX10_readsSource 195 = .ok (.iload 4, 2) := by decide +kernel
theorem dX10_readsSource_197 : decode cX10_readsSource 197 = .ok (.iastore, 1) := by decide +kernel
theorem dX10_readsSource_198 : decode cX10_readsSource 198 = .ok (.aload_n 0, 1) := by decide +kernel
theorem dX10_readsSource_199 : decode cX10_readsSource 199 = .ok (.iload_n 1, 1) := by decide +kernel
theorem dX10_readsSource_200 : decode cX10_readsSource 200 = .ok (.iconst 1, 1) := by decide +kernel
theorem dX10_readsSource_201 : decode cX10_readsSource 201 = .ok (.iadd, 1) := by decide +kernel
theorem dX10_readsSource_202 : decode cX10_readsSource 202 = .ok (.putfield 63, 3) := by decide +kernel
theorem dX10_readsSource_205 : decode cX10_readsSource 205 = .ok (.return_, 1) := by decide +kernel
theorem hyX10_readsSource : yX10_readsSource.cls ≠ "java/lang/invoke/MethodHandle" ∧ yX10_readsSource.cls ≠ "java/lang/invoke/VarHandle" ∧ (parseMethodDescriptor yX10_readsSource.desc).map (fun d => d.parameters.length) = some 0 := ⟨by decide +kernel, by decide +kernel, by decide +kernel⟩
def jX10_readsSource_163 (σ : zS) (x0 : Nat) (x1 : Int32) (x2 : Int32) (x3 : Int32) (y0 : Int32) : Option zS :=
  (zck 9 σ x0 (fX10_fine σ x0 )).bind fun c16 => (if c16.2 = 0 then some c16.1 else (zgR 9 27 c16.1 x0).bind fun v17 => (zsI c16.1 v17 x1 x2).bind fun σ18 => (zgR 9 28 σ18 x0).bind fun v19 => (zsI σ18 v19 x1 x3).bind fun σ20 => (zgR 9 7 σ20 x0).bind fun v21 => (zsI σ20 v21 (9 + x1) y0).bind fun σ22 => (zpI 9 24 σ22 x0 (x1 + 1)).bind fun σ23 => some σ23)
set_option maxRecDepth 100000 in
set_option maxHeartbeats 4000000 in
theorem wjX10_readsSource_163 (C : zC p s m args meth c cX10_readsSource RX10 5 D Ca B En) (hRm : zRm R 9 195 cells slots) (ev : zEv) (hZ : ∀ U : State, En U → zEnv ev B U) (σ : zS) (x0 : Nat) (x1 : Int32) (x2 : Int32) (x3 : Int32) (y0 : Int32) (τ : zS) (hf : jX10_readsSource_163 σ x0 x1 x2 x3 y0 = some τ) (hq : ∀ (pc : Nat) (lv : List (Nat × Value)), decode cX10_readsSource pc = .ok (.return_, 1) → zW p l e R s m args below meth c cells slots Q D Ca B 5 τ N pc lv []) : zW p l e R s m args below meth c cells slots Q D Ca B 5 σ N 163 [(0, .ref x0), (1, .int x1), (2, .int x2), (3, .int x3)] [.int y0] := by
  unfold jX10_readsSource_163 at hf
  refine z_istore (lv2 := [(4, .int y0), (0, .ref x0), (1, .int x1), (2, .int x2), (3, .int x3)]) C dX10_readsSource_163 (by decide) rfl ?_
  refine z_aload_n C dX10_readsSource_165 rfl 1 rfl ?_
  obtain ⟨c16, hc16, hf⟩ := zbind hf
  obtain ⟨kc16, hc16⟩ := zck_ok hc16
  refine z_callVi (As := []) (F0 := 9) (L0 := 195) C (mX10_fine l D Ca B En C.2.2.2.2.2.2.2.1 σ N x0  _ hc16) hRm kc16 rfl kw_1851 kw_14 kw_1848 kw_1850 kp_105 hyX10_fine (Nat.le_of_ble_eq_true rfl) (Nat.le_of_ble_eq_true rfl) rfl rfl (Nat.le_of_ble_eq_true rfl) dX10_readsSource_166 ?_
  refine z_if_ne C 173 dX10_readsSource_169 (by decide) (fun q24 => ?_) (fun q24 => ?_)
  · rw [if_neg q24] at hf
    refine z_aload_n C dX10_readsSource_173 rfl 1 rfl ?_
    obtain ⟨v17, hv17, hf⟩ := zbind hf
    refine gf_RX10_48 C hv17 dX10_readsSource_174 ?_
    refine z_iload_n C dX10_readsSource_177 rfl 2 rfl ?_
    refine z_iload_n C dX10_readsSource_178 rfl 3 rfl ?_
    obtain ⟨σ18, hσ18, hf⟩ := zbind hf
    refine z_sI C hσ18 dX10_readsSource_179 ?_
    refine z_aload_n C dX10_readsSource_180 rfl 1 rfl ?_
    obtain ⟨v19, hv19, hf⟩ := zbind hf
    refine gf_RX10_51 C hv19 dX10_readsSource_181 ?_
    refine z_iload_n C dX10_readsSource_184 rfl 2 rfl ?_
    refine z_iload_n C dX10_readsSource_185 rfl 4 rfl ?_
    obtain ⟨σ20, hσ20, hf⟩ := zbind hf
    refine z_sI C hσ20 dX10_readsSource_186 ?_
    refine z_aload_n C dX10_readsSource_187 rfl 1 rfl ?_
    obtain ⟨v21, hv21, hf⟩ := zbind hf
    refine gf_RX10_24 C hv21 dX10_readsSource_188 ?_
    refine z_bipush C 9 dX10_readsSource_191 (by decide) ?_
    refine z_iload_n C dX10_readsSource_193 rfl 2 rfl ?_
    refine z_iadd C dX10_readsSource_194 ?_
    refine z_iload C dX10_readsSource_195 0 rfl ?_
    obtain ⟨σ22, hσ22, hf⟩ := zbind hf
    refine z_sI C hσ22 dX10_readsSource_197 ?_
    refine z_aload_n C dX10_readsSource_198 rfl 1 rfl ?_
    refine z_iload_n C dX10_readsSource_199 rfl 2 rfl ?_
    refine z_iconst C 1 dX10_readsSource_200 (by decide) ?_
    refine z_iadd C dX10_readsSource_201 ?_
    obtain ⟨σ23, hσ23, hf⟩ := zbind hf
    refine gp_RX10_63 C hσ23 dX10_readsSource_202 ?_
    cases hf
    exact hq _ _ dX10_readsSource_205
  · rw [if_pos q24] at hf
    cases hf
    exact hq _ _ dX10_readsSource_172

def jX10_readsSource_115 (σ : zS) (x0 : Nat) (x1 : Int32)  : Option zS :=
  (zck 9 σ x0 (fX10_goOn σ x0 )).bind fun c12 => (zck 9 c12 x0 (fX10_numberBehind c12 x0 6 0 200)).bind fun c13 => (zck 9 c13.1 x0 (fX10_numberBehind c13.1 x0 7 0 999)).bind fun c14 => (zck 9 c14.1 x0 (fX10_isWord c14.1 x0 8)).bind fun c15 => (if c15.2 = 0 then jX10_readsSource_163 c15.1 x0 x1 c13.2 c14.2 0 else (zck 9 c15.1 x0 (fX10_numberBehind c15.1 x0 8 0 9)).bind fun c25 => jX10_readsSource_163 c25.1 x0 x1 c13.2 c14.2 c25.2)
set_option maxRecDepth 100000 in
set_option maxHeartbeats 4000000 in
theorem wjX10_readsSource_115 (C : zC p s m args meth c cX10_readsSource RX10 5 D Ca B En) (hRm : zRm R 9 195 cells slots) (ev : zEv) (hZ : ∀ U : State, En U → zEnv ev B U) (σ : zS) (x0 : Nat) (x1 : Int32)  (τ : zS) (hf : jX10_readsSource_115 σ x0 x1  = some τ) (hq : ∀ (pc : Nat) (lv : List (Nat × Value)), decode cX10_readsSource pc = .ok (.return_, 1) → zW p l e R s m args below meth c cells slots Q D Ca B 5 τ N pc lv []) : zW p l e R s m args below meth c cells slots Q D Ca B 5 σ N 115 [(0, .ref x0), (1, .int x1)] [] := by
  unfold jX10_readsSource_115 at hf
  refine z_aload_n C dX10_readsSource_115 rfl 0 rfl ?_
  obtain ⟨c12, hc12, hf⟩ := zbind hf
  obtain ⟨kc12, hc12⟩ := zck_ok hc12
  refine z_callVv (As := []) (F0 := 9) (L0 := 195) C (mX10_goOn l D Ca B En C.2.2.2.2.2.2.2.1 ev hZ σ N x0  _ hc12) hRm kc12 rfl kw_1871 kw_14 kw_1868 kw_1870 kp_110 hyX10_goOn (Nat.le_of_ble_eq_true rfl) (Nat.le_of_ble_eq_true rfl) rfl rfl (Nat.le_of_ble_eq_true rfl) dX10_readsSource_116 ?_
  refine z_aload_n C dX10_readsSource_119 rfl 0 rfl ?_
  refine z_bipush C 6 dX10_readsSource_120 (by decide) ?_
  refine z_iconst C 0 dX10_readsSource_122 (by decide) ?_
  refine z_sipush C 200 dX10_readsSource_123 (by decide) ?_
  obtain ⟨c13, hc13, hf⟩ := zbind hf
  obtain ⟨kc13, hc13⟩ := zck_ok hc13
  refine z_callVi (As := [.int 6, .int 0, .int 200]) (F0 := 9) (L0 := 195) C (mX10_numberBehind l D Ca B En C.2.2.2.2.2.2.2.1 ev hZ c12 N x0 6 0 200 _ hc13) hRm kc13 rfl kw_1884 kw_14 kw_1881 kw_1883 kp_112 hyX10_numberBehind (Nat.le_of_ble_eq_true rfl) (Nat.le_of_ble_eq_true rfl) rfl rfl (Nat.le_of_ble_eq_true rfl) dX10_readsSource_126 ?_
  refine z_istore_n (lv2 := [(2, .int c13.2), (0, .ref x0), (1, .int x1)]) C dX10_readsSource_129 rfl (by decide) rfl ?_
  refine z_aload_n C dX10_readsSource_130 rfl 1 rfl ?_
  refine z_bipush C 7 dX10_readsSource_131 (by decide) ?_
  refine z_iconst C 0 dX10_readsSource_133 (by decide) ?_
  refine z_sipush C 999 dX10_readsSource_134 (by decide) ?_
  obtain ⟨c14, hc14, hf⟩ := zbind hf
  obtain ⟨kc14, hc14⟩ := zck_ok hc14
  refine z_callVi (As := [.int 7, .int 0, .int 999]) (F0 := 9) (L0 := 195) C (mX10_numberBehind l D Ca B En C.2.2.2.2.2.2.2.1 ev hZ c13.1 N x0 7 0 999 _ hc14) hRm kc14 rfl kw_1884 kw_14 kw_1881 kw_1883 kp_112 hyX10_numberBehind (Nat.le_of_ble_eq_true rfl) (Nat.le_of_ble_eq_true rfl) rfl rfl (Nat.le_of_ble_eq_true rfl) dX10_readsSource_137 ?_
  refine z_istore_n (lv2 := [(3, .int c14.2), (2, .int c13.2), (0, .ref x0), (1, .int x1)]) C dX10_readsSource_140 rfl (by decide) rfl ?_
  refine z_aload_n C dX10_readsSource_141 rfl 2 rfl ?_
  refine z_bipush C 8 dX10_readsSource_142 (by decide) ?_
  obtain ⟨c15, hc15, hf⟩ := zbind hf
  obtain ⟨kc15, hc15⟩ := zck_ok hc15
  refine z_callVi (As := [.int 8]) (F0 := 9) (L0 := 195) C (mX10_isWord l D Ca B En C.2.2.2.2.2.2.2.1 c14.1 N x0 8 _ hc15) hRm kc15 rfl kw_1859 kw_14 kw_1856 kw_1858 kp_107 hyX10_isWord (Nat.le_of_ble_eq_true rfl) (Nat.le_of_ble_eq_true rfl) rfl rfl (Nat.le_of_ble_eq_true rfl) dX10_readsSource_144 ?_
  refine z_if_eq C 162 dX10_readsSource_147 (by decide) (fun q26 => ?_) (fun q26 => ?_)
  · rw [if_pos q26] at hf
    refine z_iconst C 0 dX10_readsSource_162 (by decide) ?_
    refine z_sub [2, 3, 1, 0] rfl ?_
    exact wjX10_readsSource_163 C hRm ev hZ _ _ _ _ _ _ _ hf hq
  · rw [if_neg q26] at hf
    refine z_aload_n C dX10_readsSource_150 rfl 2 rfl ?_
    refine z_bipush C 8 dX10_readsSource_151 (by decide) ?_
    refine z_iconst C 0 dX10_readsSource_153 (by decide) ?_
    refine z_bipush C 9 dX10_readsSource_154 (by decide) ?_
    obtain ⟨c25, hc25, hf⟩ := zbind hf
    obtain ⟨kc25, hc25⟩ := zck_ok hc25
    refine z_callVi (As := [.int 8, .int 0, .int 9]) (F0 := 9) (L0 := 195) C (mX10_numberBehind l D Ca B En C.2.2.2.2.2.2.2.1 ev hZ c15.1 N x0 8 0 9 _ hc25) hRm kc25 rfl kw_1884 kw_14 kw_1881 kw_1883 kp_112 hyX10_numberBehind (Nat.le_of_ble_eq_true rfl) (Nat.le_of_ble_eq_true rfl) rfl rfl (Nat.le_of_ble_eq_true rfl) dX10_readsSource_156 ?_
    refine z_goto C 163 dX10_readsSource_159 (by decide) ?_
    refine z_sub [2, 3, 1, 0] rfl ?_
    exact wjX10_readsSource_163 C hRm ev hZ _ _ _ _ _ _ _ hf hq

def jX10_readsSource_94 (σ : zS) (x0 : Nat) (x1 : Int32) (y0 : Int32) (y1 : Nat) : Option zS :=
  (zck 9 σ y1 (fX10_needs σ y1 y0 3)).bind fun c10 => (zck 9 c10 x0 (fX10_fine c10 x0 )).bind fun c11 => (if c11.2 = 0 then jX10_readsSource_115 c11.1 x0 x1 else (zgR 9 29 c11.1 x0).bind fun v27 => (zck 9 c11.1 x0 (fX10_nameHere c11.1 x0 )).bind fun c28 => (zsJ c28.1 v27 x1 c28.2).bind fun σ29 => jX10_readsSource_115 σ29 x0 x1)
set_option maxRecDepth 100000 in
set_option maxHeartbeats 4000000 in
theorem wjX10_readsSource_94 (C : zC p s m args meth c cX10_readsSource RX10 5 D Ca B En) (hRm : zRm R 9 195 cells slots) (ev : zEv) (hZ : ∀ U : State, En U → zEnv ev B U) (σ : zS) (x0 : Nat) (x1 : Int32) (y0 : Int32) (y1 : Nat) (τ : zS) (hf : jX10_readsSource_94 σ x0 x1 y0 y1 = some τ) (hq : ∀ (pc : Nat) (lv : List (Nat × Value)), decode cX10_readsSource pc = .ok (.return_, 1) → zW p l e R s m args below meth c cells slots Q D Ca B 5 τ N pc lv []) : zW p l e R s m args below meth c cells slots Q D Ca B 5 σ N 94 [(0, .ref x0), (1, .int x1)] [.int y0, .ref y1] := by
  unfold jX10_readsSource_94 at hf
  refine z_iconst C 3 dX10_readsSource_94 (by decide) ?_
  obtain ⟨c10, hc10, hf⟩ := zbind hf
  obtain ⟨kc10, hc10⟩ := zck_ok hc10
  refine z_callVv (As := [.int y0, .int 3]) (F0 := 9) (L0 := 195) C (mX10_needs l D Ca B En C.2.2.2.2.2.2.2.1 σ N y1 y0 3 _ hc10) hRm kc10 rfl kw_1867 kw_14 kw_1864 kw_1866 kp_109 hyX10_needs (Nat.le_of_ble_eq_true rfl) (Nat.le_of_ble_eq_true rfl) rfl rfl (Nat.le_of_ble_eq_true rfl) dX10_readsSource_95 ?_
  refine z_aload_n C dX10_readsSource_98 rfl 0 rfl ?_
  obtain ⟨c11, hc11, hf⟩ := zbind hf
  obtain ⟨kc11, hc11⟩ := zck_ok hc11
  refine z_callVi (As := []) (F0 := 9) (L0 := 195) C (mX10_fine l D Ca B En C.2.2.2.2.2.2.2.1 c10 N x0  _ hc11) hRm kc11 rfl kw_1851 kw_14 kw_1848 kw_1850 kp_105 hyX10_fine (Nat.le_of_ble_eq_true rfl) (Nat.le_of_ble_eq_true rfl) rfl rfl (Nat.le_of_ble_eq_true rfl) dX10_readsSource_99 ?_
  refine z_if_eq C 115 dX10_readsSource_102 (by decide) (fun q30 => ?_) (fun q30 => ?_)
  · rw [if_pos q30] at hf
    refine z_sub [0, 1] rfl ?_
    exact wjX10_readsSource_115 C hRm ev hZ _ _ _  _ hf hq
  · rw [if_neg q30] at hf
    refine z_aload_n C dX10_readsSource_105 rfl 0 rfl ?_
    obtain ⟨v27, hv27, hf⟩ := zbind hf
    refine gf_RX10_54 C hv27 dX10_readsSource_106 ?_
    refine z_iload_n C dX10_readsSource_109 rfl 1 rfl ?_
    refine z_aload_n C dX10_readsSource_110 rfl 0 rfl ?_
    obtain ⟨c28, hc28, hf⟩ := zbind hf
    obtain ⟨kc28, hc28⟩ := zck_ok hc28
    refine z_callVl (As := []) (F0 := 9) (L0 := 195) C (mX10_nameHere l D Ca B En C.2.2.2.2.2.2.2.1 c11.1 N x0  _ hc28) hRm kc28 rfl kw_1875 kw_14 kw_1872 kw_1874 kp_111 hyX10_nameHere (Nat.le_of_ble_eq_true rfl) (Nat.le_of_ble_eq_true rfl) rfl rfl (Nat.le_of_ble_eq_true rfl) dX10_readsSource_111 ?_
    obtain ⟨σ29, hσ29, hf⟩ := zbind hf
    refine z_sJ C hσ29 dX10_readsSource_114 ?_
    refine z_sub [0, 1] rfl ?_
    exact wjX10_readsSource_115 C hRm ev hZ _ _ _  _ hf hq

def jX10_readsSource_60 (σ : zS) (x0 : Nat) (x1 : Int32) (y0 : Int32) (y1 : Nat) : Option zS :=
  (zck 9 σ y1 (fX10_needs σ y1 y0 1)).bind fun c5 => (zck 9 c5 x0 (fX10_fine c5 x0 )).bind fun c6 => (if c6.2 = 0 then some c6.1 else (zck 9 c6.1 x0 (fX10_nameHere c6.1 x0 )).bind fun c7 => (zgR 9 29 c7.1 x0).bind fun v8 => (fX10_placeOf c7.1 c7.2 v8 x1).bind fun c9 => (if c9.2 = ((-1)) then jX10_readsSource_94 c9.1 x0 x1 1 x0 else jX10_readsSource_94 c9.1 x0 x1 0 x0))
set_option maxRecDepth 100000 in
set_option maxHeartbeats 4000000 in
theorem wjX10_readsSource_60 (C : zC p s m args meth c cX10_readsSource RX10 5 D Ca B En) (hRm : zRm R 9 195 cells slots) (ev : zEv) (hZ : ∀ U : State, En U → zEnv ev B U) (σ : zS) (x0 : Nat) (x1 : Int32) (y0 : Int32) (y1 : Nat) (τ : zS) (hf : jX10_readsSource_60 σ x0 x1 y0 y1 = some τ) (hq : ∀ (pc : Nat) (lv : List (Nat × Value)), decode cX10_readsSource pc = .ok (.return_, 1) → zW p l e R s m args below meth c cells slots Q D Ca B 5 τ N pc lv []) : zW p l e R s m args below meth c cells slots Q D Ca B 5 σ N 60 [(0, .ref x0), (1, .int x1)] [.int y0, .ref y1] := by
  unfold jX10_readsSource_60 at hf
  refine z_iconst C 1 dX10_readsSource_60 (by decide) ?_
  obtain ⟨c5, hc5, hf⟩ := zbind hf
  obtain ⟨kc5, hc5⟩ := zck_ok hc5
  refine z_callVv (As := [.int y0, .int 1]) (F0 := 9) (L0 := 195) C (mX10_needs l D Ca B En C.2.2.2.2.2.2.2.1 σ N y1 y0 1 _ hc5) hRm kc5 rfl kw_1867 kw_14 kw_1864 kw_1866 kp_109 hyX10_needs (Nat.le_of_ble_eq_true rfl) (Nat.le_of_ble_eq_true rfl) rfl rfl (Nat.le_of_ble_eq_true rfl) dX10_readsSource_61 ?_
  refine z_aload_n C dX10_readsSource_64 rfl 0 rfl ?_
  obtain ⟨c6, hc6, hf⟩ := zbind hf
  obtain ⟨kc6, hc6⟩ := zck_ok hc6
  refine z_callVi (As := []) (F0 := 9) (L0 := 195) C (mX10_fine l D Ca B En C.2.2.2.2.2.2.2.1 c5 N x0  _ hc6) hRm kc6 rfl kw_1851 kw_14 kw_1848 kw_1850 kp_105 hyX10_fine (Nat.le_of_ble_eq_true rfl) (Nat.le_of_ble_eq_true rfl) rfl rfl (Nat.le_of_ble_eq_true rfl) dX10_readsSource_65 ?_
  refine z_if_ne C 72 dX10_readsSource_68 (by decide) (fun q32 => ?_) (fun q32 => ?_)
  · rw [if_neg q32] at hf
    refine z_aload_n C dX10_readsSource_72 rfl 0 rfl ?_
    refine z_aload_n C dX10_readsSource_73 rfl 0 rfl ?_
    obtain ⟨c7, hc7, hf⟩ := zbind hf
    obtain ⟨kc7, hc7⟩ := zck_ok hc7
    refine z_callVl (As := []) (F0 := 9) (L0 := 195) C (mX10_nameHere l D Ca B En C.2.2.2.2.2.2.2.1 c6.1 N x0  _ hc7) hRm kc7 rfl kw_1875 kw_14 kw_1872 kw_1874 kp_111 hyX10_nameHere (Nat.le_of_ble_eq_true rfl) (Nat.le_of_ble_eq_true rfl) rfl rfl (Nat.le_of_ble_eq_true rfl) dX10_readsSource_74 ?_
    refine z_aload_n C dX10_readsSource_77 rfl 0 rfl ?_
    obtain ⟨v8, hv8, hf⟩ := zbind hf
    refine gf_RX10_54 C hv8 dX10_readsSource_78 ?_
    refine z_iload_n C dX10_readsSource_81 rfl 1 rfl ?_
    obtain ⟨c9, hc9, hf⟩ := zbind hf
    refine z_callSi (As := [.long c7.2, .ref v8, .int x1]) (F0 := 9) (L0 := 195) C (mX10_placeOf l D Ca B En C.2.2.2.2.2.2.2.1 c7.1 N c7.2 v8 x1 _ hc9) hRm kw_1880 kw_14 kw_1878 kw_1879 hyX10_placeOf (Nat.le_of_ble_eq_true rfl) (Nat.le_of_ble_eq_true rfl) rfl rfl (Nat.le_of_ble_eq_true rfl) dX10_readsSource_82 ?_
    refine z_iconst C (-1) dX10_readsSource_85 (by decide) ?_
    refine z_icmp_ne C 93 dX10_readsSource_86 (by decide) (fun q31 => ?_) (fun q31 => ?_)
    · rw [if_neg q31] at hf
      refine z_iconst C 0 dX10_readsSource_93 (by decide) ?_
      refine z_sub [0, 1] rfl ?_
      exact wjX10_readsSource_94 C hRm ev hZ _ _ _ _ _ _ hf hq
    · rw [if_pos q31] at hf
      refine z_iconst C 1 dX10_readsSource_89 (by decide) ?_
      refine z_goto C 94 dX10_readsSource_90 (by decide) ?_
      refine z_sub [0, 1] rfl ?_
      exact wjX10_readsSource_94 C hRm ev hZ _ _ _ _ _ _ hf hq
  · rw [if_pos q32] at hf
    cases hf
    exact hq _ _ dX10_readsSource_71

def jX10_readsSource_59 (σ : zS) (x0 : Nat) (x1 : Int32) (y0 : Nat) : Option zS :=
  jX10_readsSource_60 σ x0 x1 0 y0
set_option maxRecDepth 100000 in
set_option maxHeartbeats 4000000 in
theorem wjX10_readsSource_59 (C : zC p s m args meth c cX10_readsSource RX10 5 D Ca B En) (hRm : zRm R 9 195 cells slots) (ev : zEv) (hZ : ∀ U : State, En U → zEnv ev B U) (σ : zS) (x0 : Nat) (x1 : Int32) (y0 : Nat) (τ : zS) (hf : jX10_readsSource_59 σ x0 x1 y0 = some τ) (hq : ∀ (pc : Nat) (lv : List (Nat × Value)), decode cX10_readsSource pc = .ok (.return_, 1) → zW p l e R s m args below meth c cells slots Q D Ca B 5 τ N pc lv []) : zW p l e R s m args below meth c cells slots Q D Ca B 5 σ N 59 [(0, .ref x0), (1, .int x1)] [.ref y0] := by
  unfold jX10_readsSource_59 at hf
  refine z_iconst C 0 dX10_readsSource_59 (by decide) ?_
  refine z_sub [0, 1] rfl ?_
  exact wjX10_readsSource_60 C hRm ev hZ _ _ _ _ _ _ hf hq

def jX10_readsSource_16 (σ : zS) (x0 : Nat) (x1 : Int32) (y0 : Int32) (y1 : Nat) : Option zS :=
  (zck 9 σ y1 (fX10_needs σ y1 y0 4)).bind fun c2 => (zck 9 c2 x0 (fX10_goOn c2 x0 )).bind fun c3 => (zgI 9 19 c3 x0).bind fun v4 => (if v4 = 1 then (zgI 9 20 c3 x0).bind fun v33 => (if v33 = ((-1)) then (zgI 9 17 c3 x0).bind fun v34 => (zgI 9 18 c3 x0).bind fun v35 => (if 8 < (v34 - v35) then jX10_readsSource_59 c3 x0 x1 x0 else jX10_readsSource_60 c3 x0 x1 1 x0) else jX10_readsSource_59 c3 x0 x1 x0) else jX10_readsSource_59 c3 x0 x1 x0)
set_option maxRecDepth 100000 in
set_option maxHeartbeats 4000000 in
theorem wjX10_readsSource_16 (C : zC p s m args meth c cX10_readsSource RX10 5 D Ca B En) (hRm : zRm R 9 195 cells slots) (ev : zEv) (hZ : ∀ U : State, En U → zEnv ev B U) (σ : zS) (x0 : Nat) (x1 : Int32) (y0 : Int32) (y1 : Nat) (τ : zS) (hf : jX10_readsSource_16 σ x0 x1 y0 y1 = some τ) (hq : ∀ (pc : Nat) (lv : List (Nat × Value)), decode cX10_readsSource pc = .ok (.return_, 1) → zW p l e R s m args below meth c cells slots Q D Ca B 5 τ N pc lv []) : zW p l e R s m args below meth c cells slots Q D Ca B 5 σ N 16 [(0, .ref x0), (1, .int x1)] [.int y0, .ref y1] := by
  unfold jX10_readsSource_16 at hf
  refine z_iconst C 4 dX10_readsSource_16 (by decide) ?_
  obtain ⟨c2, hc2, hf⟩ := zbind hf
  obtain ⟨kc2, hc2⟩ := zck_ok hc2
  refine z_callVv (As := [.int y0, .int 4]) (F0 := 9) (L0 := 195) C (mX10_needs l D Ca B En C.2.2.2.2.2.2.2.1 σ N y1 y0 4 _ hc2) hRm kc2 rfl kw_1867 kw_14 kw_1864 kw_1866 kp_109 hyX10_needs (Nat.le_of_ble_eq_true rfl) (Nat.le_of_ble_eq_true rfl) rfl rfl (Nat.le_of_ble_eq_true rfl) dX10_readsSource_17 ?_
  refine z_aload_n C dX10_readsSource_20 rfl 0 rfl ?_
  obtain ⟨c3, hc3, hf⟩ := zbind hf
  obtain ⟨kc3, hc3⟩ := zck_ok hc3
  refine z_callVv (As := []) (F0 := 9) (L0 := 195) C (mX10_goOn l D Ca B En C.2.2.2.2.2.2.2.1 ev hZ c2 N x0  _ hc3) hRm kc3 rfl kw_1871 kw_14 kw_1868 kw_1870 kp_110 hyX10_goOn (Nat.le_of_ble_eq_true rfl) (Nat.le_of_ble_eq_true rfl) rfl rfl (Nat.le_of_ble_eq_true rfl) dX10_readsSource_21 ?_
  refine z_aload_n C dX10_readsSource_24 rfl 0 rfl ?_
  refine z_aload_n C dX10_readsSource_25 rfl 0 rfl ?_
  obtain ⟨v4, hv4, hf⟩ := zbind hf
  refine gf_RX10_372 C hv4 dX10_readsSource_26 ?_
  refine z_iconst C 1 dX10_readsSource_29 (by decide) ?_
  refine z_icmp_ne C 59 dX10_readsSource_30 (by decide) (fun q38 => ?_) (fun q38 => ?_)
  · rw [if_neg q38] at hf
    refine z_sub [0, 1] rfl ?_
    exact wjX10_readsSource_59 C hRm ev hZ _ _ _ _ _ hf hq
  · rw [if_pos q38] at hf
    refine z_aload_n C dX10_readsSource_33 rfl 0 rfl ?_
    obtain ⟨v33, hv33, hf⟩ := zbind hf
    refine gf_RX10_382 C hv33 dX10_readsSource_34 ?_
    refine z_iconst C (-1) dX10_readsSource_37 (by decide) ?_
    refine z_icmp_ne C 59 dX10_readsSource_38 (by decide) (fun q37 => ?_) (fun q37 => ?_)
    · rw [if_neg q37] at hf
      refine z_sub [0, 1] rfl ?_
      exact wjX10_readsSource_59 C hRm ev hZ _ _ _ _ _ hf hq
    · rw [if_pos q37] at hf
      refine z_aload_n C dX10_readsSource_41 rfl 0 rfl ?_
      obtain ⟨v34, hv34, hf⟩ := zbind hf
      refine gf_RX10_363 C hv34 dX10_readsSource_42 ?_
      refine z_aload_n C dX10_readsSource_45 rfl 0 rfl ?_
      obtain ⟨v35, hv35, hf⟩ := zbind hf
      refine gf_RX10_369 C hv35 dX10_readsSource_46 ?_
      refine z_isub C dX10_readsSource_49 ?_
      refine z_bipush C 8 dX10_readsSource_50 (by decide) ?_
      refine z_icmp_gt C 59 dX10_readsSource_52 (by decide) (fun q36 => ?_) (fun q36 => ?_)
      · rw [if_pos q36] at hf
        refine z_sub [0, 1] rfl ?_
        exact wjX10_readsSource_59 C hRm ev hZ _ _ _ _ _ hf hq
      · rw [if_neg q36] at hf
        refine z_iconst C 1 dX10_readsSource_55 (by decide) ?_
        refine z_goto C 60 dX10_readsSource_56 (by decide) ?_
        refine z_sub [0, 1] rfl ?_
        exact wjX10_readsSource_60 C hRm ev hZ _ _ _ _ _ _ hf hq

def fX10_readsSource (σ : zS) (x0 : Nat) : Option zS :=
  (zgI 9 24 σ x0).bind fun v1 => (if 4 ≤ v1 then jX10_readsSource_16 σ x0 v1 0 x0 else jX10_readsSource_16 σ x0 v1 1 x0)
set_option maxRecDepth 100000 in
set_option maxHeartbeats 4000000 in
theorem wfX10_readsSource (C : zC p s m args meth c cX10_readsSource RX10 5 D Ca B En) (hRm : zRm R 9 195 cells slots) (ev : zEv) (hZ : ∀ U : State, En U → zEnv ev B U) (σ : zS) (x0 : Nat) (τ : zS) (hf : fX10_readsSource σ x0 = some τ) (hq : ∀ (pc : Nat) (lv : List (Nat × Value)), decode cX10_readsSource pc = .ok (.return_, 1) → zW p l e R s m args below meth c cells slots Q D Ca B 5 τ N pc lv []) : zW p l e R s m args below meth c cells slots Q D Ca B 5 σ N 0 [(0, .ref x0)] [] := by
  unfold fX10_readsSource at hf
  refine z_aload_n C dX10_readsSource_0 rfl 0 rfl ?_
  obtain ⟨v1, hv1, hf⟩ := zbind hf
  refine gf_RX10_63 C hv1 dX10_readsSource_1 ?_
  refine z_istore_n (lv2 := [(1, .int v1), (0, .ref x0)]) C dX10_readsSource_4 rfl (by decide) rfl ?_
  refine z_aload_n C dX10_readsSource_5 rfl 1 rfl ?_
  refine z_iload_n C dX10_readsSource_6 rfl 0 rfl ?_
  refine z_iconst C 4 dX10_readsSource_7 (by decide) ?_
  refine z_icmp_ge C 15 dX10_readsSource_8 (by decide) (fun q39 => ?_) (fun q39 => ?_)
  · rw [if_pos q39] at hf
    refine z_iconst C 0 dX10_readsSource_15 (by decide) ?_
    refine z_sub [1, 0] rfl ?_
    exact wjX10_readsSource_16 C hRm ev hZ _ _ _ _ _ _ hf hq
  · rw [if_neg q39] at hf
    refine z_iconst C 1 dX10_readsSource_11 (by decide) ?_
    refine z_goto C 16 dX10_readsSource_12 (by decide) ?_
    refine z_sub [1, 0] rfl ?_
    exact wjX10_readsSource_16 C hRm ev hZ _ _ _ _ _ _ hf hq

theorem mX10_readsSource (l : Launch) (D : va_G) (Ca : Nat → ClassId) (B : Nat) (En : State → Prop) (hE : zEk B En) (ev : zEv) (hZ : ∀ U : State, En U → zEnv ev B U) (σ : zS) (N : Nat) (x0 : Nat) (X : zS) (hf : fX10_readsSource σ x0 = some X) : zMv l D Ca B En yX10_readsSource cX10_readsSource 5 (Option.none : Option Jvm.ClassFile.FieldType) 9 195 [.ref x0] σ N X () :=
  zMet_v (own := RX10) hE (by decide +kernel) rfl (Nat.le_of_ble_eq_true rfl) (fun p e s m args below meth c C hr hRm => wfX10_readsSource C hRm ev hZ σ x0 X hf (fun pc lv hd => zfin_v (r := ()) C hr hd))
theorem dX10_once_0 : decode cX10_once 0 = .ok (.aload_n 0, 1) := by decide +kernel
theorem dX10_once_1 : decode cX10_once 1 = .ok (.aload_n 0, 1) := by decide +kernel
theorem dX10_once_2 : decode cX10_once 2 = .ok (.getfield 72, 3) := by decide +kernel
theorem dX10_once_5 : decode cX10_once 5 = .ok (.iload_n 1, 1) := by decide +kernel
theorem dX10_once_6 : decode cX10_once 6 = .ok (.ishr, 1) := by decide +kernel
theorem dX10_once_7 : decode cX10_once 7 = .ok (.iconst 1, 1) := by decide +kernel
theorem dX10_once_8 : decode cX10_once 8 = .ok (.iand, 1) := by decide +kernel
theorem dX10_once_9 : decode cX10_once 9 = .ok (.ifCond .ne 7, 3) := by decide +kernel
theorem dX10_once_12 : decode cX10_once 12 = .ok (.iconst 1, 1) := by decide +kernel
theorem dX10_once_13 : decode cX10_once 13 = .ok (.goto 4, 3) := by decide +kernel
theorem dX10_once_16 : decode cX10_once 16 = .ok (.iconst 0, 1) := by decide +kernel
theorem dX10_once_17 : decode cX10_once 17 = .ok (.iconst 3, 1) := by decide +kernel
theorem dX10_once_18 : decode cX10_once 18 = .ok (.invokevirtual 411, 3) := by decide +kernel
theorem dX10_once_21 : decode cX10_once 21 = .ok (.aload_n 0, 1) := by decide +kernel
theorem dX10_once_22 : decode cX10_once 22 = .ok (.aload_n 0, 1) := by decide +kernel
theorem dX10_once_23 : decode cX10_once 23 = .ok (.getfield 72, 3) := by decide +kernel
theorem dX10_once_26 : decode cX10_once 26 = .ok (.iconst 1, 1) := by decide +kernel
theorem dX10_once_27 : decode cX10_once 27 = .ok (.iload_n 1, 1) := by decide +kernel
theorem dX10_once_28 : decode cX10_once 28 = .ok (.ishl, 1) := by decide +kernel
theorem dX10_once_29 : decode cX10_once 29 = .ok (.ior, 1) := by decide +kernel
theorem dX10_once_30 : decode cX10_once 30 = .ok (.putfield 72, 3) := by decide +kernel
theorem dX10_once_33 : decode cX10_once 33 = .ok (.aload_n 0, 1) := by decide +kernel
theorem dX10_once_34 : decode cX10_once 34 = .ok (.invokevirtual 415, 3) := by decide +kernel
theorem dX10_once_37 : decode cX10_once 37 = .ok (.return_, 1) := by decide +kernel
theorem hyX10_once : yX10_once.cls ≠ "java/lang/invoke/MethodHandle" ∧ yX10_once.cls ≠ "java/lang/invoke/VarHandle" ∧ (parseMethodDescriptor yX10_once.desc).map (fun d => d.parameters.length) = some 1 := ⟨by decide +kernel, by decide +kernel, by decide +kernel⟩
def jX10_once_17 (σ : zS) (x0 : Nat) (x1 : Int32) (y0 : Int32) (y1 : Nat) : Option zS :=
  (zck 9 σ y1 (fX10_needs σ y1 y0 3)).bind fun c2 => (zgI 9 26 c2 x0).bind fun v3 => (zpI 9 26 c2 x0 (v3 ||| (1 <<< (x1 &&& 31)))).bind fun σ4 => (zck 9 σ4 x0 (fX10_goOn σ4 x0 )).bind fun c5 => some c5
set_option maxRecDepth 100000 in
set_option maxHeartbeats 4000000 in
theorem wjX10_once_17 (C : zC p s m args meth c cX10_once RX10 2 D Ca B En) (hRm : zRm R 7 149 cells slots) (ev : zEv) (hZ : ∀ U : State, En U → zEnv ev B U) (σ : zS) (x0 : Nat) (x1 : Int32) (y0 : Int32) (y1 : Nat) (τ : zS) (hf : jX10_once_17 σ x0 x1 y0 y1 = some τ) (hq : ∀ (pc : Nat) (lv : List (Nat × Value)), decode cX10_once pc = .ok (.return_, 1) → zW p l e R s m args below meth c cells slots Q D Ca B 2 τ N pc lv []) : zW p l e R s m args below meth c cells slots Q D Ca B 2 σ N 17 [(0, .ref x0), (1, .int x1)] [.int y0, .ref y1] := by
  unfold jX10_once_17 at hf
  refine z_iconst C 3 dX10_once_17 (by decide) ?_
  obtain ⟨c2, hc2, hf⟩ := zbind hf
  obtain ⟨kc2, hc2⟩ := zck_ok hc2
  refine z_callVv (As := [.int y0, .int 3]) (F0 := 7) (L0 := 149) C (mX10_needs l D Ca B En C.2.2.2.2.2.2.2.1 σ N y1 y0 3 _ hc2) hRm kc2 rfl kw_1867 kw_14 kw_1864 kw_1866 kp_109 hyX10_needs (Nat.le_of_ble_eq_true rfl) (Nat.le_of_ble_eq_true rfl) rfl rfl (Nat.le_of_ble_eq_true rfl) dX10_once_18 ?_
  refine z_aload_n C dX10_once_21 rfl 0 rfl ?_
  refine z_aload_n C dX10_once_22 rfl 0 rfl ?_
  obtain ⟨v3, hv3, hf⟩ := zbind hf
  refine gf_RX10_72 C hv3 dX10_once_23 ?_
  refine z_iconst C 1 dX10_once_26 (by decide) ?_
  refine z_iload_n C dX10_once_27 rfl 1 rfl ?_
  refine z_ishl C dX10_once_28 ?_
  refine z_ior C dX10_once_29 ?_
  obtain ⟨σ4, hσ4, hf⟩ := zbind hf
  refine gp_RX10_72 C hσ4 dX10_once_30 ?_
  refine z_aload_n C dX10_once_33 rfl 0 rfl ?_
  obtain ⟨c5, hc5, hf⟩ := zbind hf
  obtain ⟨kc5, hc5⟩ := zck_ok hc5
  refine z_callVv (As := []) (F0 := 7) (L0 := 149) C (mX10_goOn l D Ca B En C.2.2.2.2.2.2.2.1 ev hZ σ4 N x0  _ hc5) hRm kc5 rfl kw_1871 kw_14 kw_1868 kw_1870 kp_110 hyX10_goOn (Nat.le_of_ble_eq_true rfl) (Nat.le_of_ble_eq_true rfl) rfl rfl (Nat.le_of_ble_eq_true rfl) dX10_once_34 ?_
  cases hf
  exact hq _ _ dX10_once_37

def fX10_once (σ : zS) (x0 : Nat) (x1 : Int32) : Option zS :=
  (zgI 9 26 σ x0).bind fun v1 => (if ((v1 >>> (x1 &&& 31)) &&& 1) = 0 then jX10_once_17 σ x0 x1 1 x0 else jX10_once_17 σ x0 x1 0 x0)
set_option maxRecDepth 100000 in
set_option maxHeartbeats 4000000 in
theorem wfX10_once (C : zC p s m args meth c cX10_once RX10 2 D Ca B En) (hRm : zRm R 7 149 cells slots) (ev : zEv) (hZ : ∀ U : State, En U → zEnv ev B U) (σ : zS) (x0 : Nat) (x1 : Int32) (τ : zS) (hf : fX10_once σ x0 x1 = some τ) (hq : ∀ (pc : Nat) (lv : List (Nat × Value)), decode cX10_once pc = .ok (.return_, 1) → zW p l e R s m args below meth c cells slots Q D Ca B 2 τ N pc lv []) : zW p l e R s m args below meth c cells slots Q D Ca B 2 σ N 0 [(0, .ref x0), (1, .int x1)] [] := by
  unfold fX10_once at hf
  refine z_aload_n C dX10_once_0 rfl 0 rfl ?_
  refine z_aload_n C dX10_once_1 rfl 0 rfl ?_
  obtain ⟨v1, hv1, hf⟩ := zbind hf
  refine gf_RX10_72 C hv1 dX10_once_2 ?_
  refine z_iload_n C dX10_once_5 rfl 1 rfl ?_
  refine z_ishr C dX10_once_6 ?_
  refine z_iconst C 1 dX10_once_7 (by decide) ?_
  refine z_iand C dX10_once_8 ?_
  refine z_if_ne C 16 dX10_once_9 (by decide) (fun q6 => ?_) (fun q6 => ?_)
  · rw [if_neg q6] at hf
    refine z_iconst C 0 dX10_once_16 (by decide) ?_
    refine z_sub [0, 1] rfl ?_
    exact wjX10_once_17 C hRm ev hZ _ _ _ _ _ _ hf hq
  · rw [if_pos q6] at hf
    refine z_iconst C 1 dX10_once_12 (by decide) ?_
    refine z_goto C 17 dX10_once_13 (by decide) ?_
    refine z_sub [0, 1] rfl ?_
    exact wjX10_once_17 C hRm ev hZ _ _ _ _ _ _ hf hq

theorem mX10_once (l : Launch) (D : va_G) (Ca : Nat → ClassId) (B : Nat) (En : State → Prop) (hE : zEk B En) (ev : zEv) (hZ : ∀ U : State, En U → zEnv ev B U) (σ : zS) (N : Nat) (x0 : Nat) (x1 : Int32) (X : zS) (hf : fX10_once σ x0 x1 = some X) : zMv l D Ca B En yX10_once cX10_once 2 (Option.none : Option Jvm.ClassFile.FieldType) 7 149 [.ref x0, .int x1] σ N X () :=
  zMet_v (own := RX10) hE (by decide +kernel) rfl (Nat.le_of_ble_eq_true rfl) (fun p e s m args below meth c C hr hRm => wfX10_once C hRm ev hZ σ x0 x1 X hf (fun pc lv hd => zfin_v (r := ()) C hr hd))
theorem dX10_readsOnce_0 : decode cX10_readsOnce 0 = .ok (.aload_n 0, 1) := by decide +kernel
theorem dX10_readsOnce_1 : decode cX10_readsOnce 1 = .ok (.iload_n 1, 1) := by decide +kernel
theorem dX10_readsOnce_2 : decode cX10_readsOnce 2 = .ok (.invokevirtual 440, 3) := by decide +kernel
theorem dX10_readsOnce_5 : decode cX10_readsOnce 5 = .ok (.iload_n 1, 1) := by decide +kernel
theorem dX10_readsOnce_6 : decode cX10_readsOnce 6 = .ok (.iconst 4, 1) := by decide +kernel
theorem dX10_readsOnce_7 : decode cX10_readsOnce 7 = .ok (.if_icmp .ne 7, 3) := by decide +kernel
theorem dX10_readsOnce_10 : decode cX10_readsOnce 10 = .ok (.iconst 1, 1) := by decide +kernel
theorem dX10_readsOnce_11 : decode cX10_readsOnce 11 = .ok (.goto 46, 3) := by decide +kernel
theorem dX10_readsOnce_14 : decode cX10_readsOnce 14 = .ok (.aload_n 0, 1) := by decide +kernel
theorem dX10_readsOnce_15 : decode cX10_readsOnce 15 = .ok (.iload_n 1, 1) := by decide +kernel
theorem dX10_readsOnce_16 : decode cX10_readsOnce 16 = .ok (.iconst 3, 1) := by decide +kernel
theorem dX10_readsOnce_17 : decode cX10_readsOnce 17 = .ok (.if_icmp .ne 7, 3) := by decide +kernel
theorem dX10_readsOnce_20 : decode cX10_readsOnce 20 = .ok (.iconst 0, 1) := by decide +kernel
theorem dX10_readsOnce_21 : decode cX10_readsOnce 21 = .ok (.goto 4, 3) := by decide +kernel
theorem dX10_readsOnce_24 : decode cX10_readsOnce 24 = .ok (.iconst 1, 1) := by decide +kernel
theorem dX10_readsOnce_25 : decode cX10_readsOnce 25 = .ok (.iload_n 1, 1) := by decide +kernel
theorem dX10_readsOnce_26 : decode cX10_readsOnce 26 = .ok (.ifCond .ne 7, 3) := by decide +kernel
theorem dX10_readsOnce_29 : decode cX10_readsOnce 29 = .ok (.iconst 4, 1) := by decide +kernel
theorem dX10_readsOnce_30 : decode cX10_readsOnce 30 = .ok (.goto 24, 3) := by decide +kernel
theorem dX10_readsOnce_33 : decode cX10_readsOnce 33 = .ok (.iload_n 1, 1) := by decide +kernel
theorem dX10_readsOnce_34 : decode cX10_readsOnce 34 = .ok (.iconst 1, 1) := by decide +kernel
theorem dX10_readsOnce_35 : decode cX10_readsOnce 35 = .ok (.if_icmp .ne 7, 3) := by decide +kernel
theorem dX10_readsOnce_38 : decode cX10_readsOnce 38 = .ok (.iconst 2, 1) := by decide +kernel
theorem dX10_readsOnce_39 : decode cX10_readsOnce 39 = .ok (.goto 15, 3) := by decide +kernel
theorem dX10_readsOnce_42 : decode cX10_readsOnce 42 = .ok (.iload_n 1, 1) := by decide +kernel
theorem dX10_readsOnce_43 : decode cX10_readsOnce 43 = .ok (.iconst 2, 1) := by decide +kernel
theorem dX10_readsOnce_44 : decode cX10_readsOnce 44 = .ok (.if_icmp .ne 8, 3) := by decide +kernel
theorem dX10_readsOnce_47 : decode cX10_readsOnce 47 = .ok (.bipush 9, 2) := by decide +kernel
theorem dX10_readsOnce_49 : decode cX10_readsOnce 49 = .ok (.goto 5, 3) := by decide +kernel
theorem dX10_readsOnce_52 : decode cX10_readsOnce 52 = .ok (.bipush 99, 2) := by decide +kernel
theorem dX10_readsOnce_54 : decode cX10_readsOnce 54 = .ok (.invokevirtual 421, 3) := by decide +kernel
theorem dX10_readsOnce_57 : decode cX10_readsOnce 57 = .ok (.istore_n 2, 1) := by decide +kernel
theorem dX10_readsOnce_58 : decode cX10_readsOnce 58 = .ok (.aload_n 0, 1) := by decide +kernel
theorem dX10_readsOnce_59 : decode cX10_readsOnce 59 = .ok (.invokevirtual 405, 3) := by decide +kernel
theorem dX10_readsOnce_62 : decode cX10_readsOnce 62 = .ok (.ifCond .ne 4, 3) := by decide +kernel
theorem dX10_readsOnce_65 : decode cX10_readsOnce 65 = .ok (.return_, 1) := by decide +kernel
theorem dX10_readsOnce_66 : decode cX10_readsOnce 66 = .ok (.iload_n 1, 1) := by decide +kernel
theorem dX10_readsOnce_67 : decode cX10_readsOnce 67 = .ok (.tableswitch 67 0 3 #[29, 39, 47, 57], 29) := by decide +kernel
theorem dX10_readsOnce_96 : decode cX10_readsOnce 96 = .ok (.aload_n 0, 1) := by decide +kernel
theorem dX10_readsOnce_97 : decode cX10_readsOnce 97 = .ok (.getfield 24, 3) := by decide +kernel
theorem dX10_readsOnce_100 : decode cX10_readsOnce 100 = .ok (.iconst 1, 1) := by decide +kernel
theorem dX10_readsOnce_101 : decode cX10_readsOnce 101 = .ok (.iload_n 2, 1) := by decide +kernel
theorem dX10_readsOnce_102 : decode cX10_readsOnce 102 = .ok (.iastore, 1) := by decide +kernel
theorem dX10_readsOnce_103 : decode cX10_readsOnce 103 = .ok (.goto 38, 3) := by decide +kernel
theorem dX10_readsOnce_106 : decode cX10_readsOnce 106 = .ok (.aload_n 0, 1) := by decide +kernel
theorem dX10_readsOnce_107 : decode cX10_readsOnce 107 = .ok (.iload_n 2, 1) := by decide +kernel
theorem dX10_readsOnce_108 : decode cX10_readsOnce 108 = .ok (.putfield 69, 3) := by decide +kernel
theorem dX10_readsOnce_111 : decode cX10_readsOnce 111 = .ok (.goto 30, 3) := by decide +kernel
theorem dX10_readsOnce_114 : decode cX10_readsOnce 114 = .ok (.aload_n 0, 1) := by decide +kernel
theorem dX10_readsOnce_115 : decode cX10_readsOnce 115 = .ok (.getfield 24, 3) := by decide +kernel
theorem dX10_readsOnce_118 : decode cX10_readsOnce 118 = .ok (.iconst 2, 1) := by decide +kernel
theorem dX10_readsOnce_119 : decode cX10_readsOnce 119 = .ok (.iload_n 2, 1) := by decide +kernel
theorem dX10_readsOnce_120 : decode cX10_readsOnce 120 = .ok (.iastore, 1) := by decide +kernel
theorem dX10_readsOnce_121 : decode cX10_readsOnce 121 = .ok (.goto 20, 3) := by decide +kernel
theorem dX10_readsOnce_124 : decode cX10_readsOnce 124 = .ok (.aload_n 0, 1) := by decide +kernel
theorem dX10_readsOnce_125 : decode cX10_readsOnce 125 = .ok (.getfield 24, 3) := by decide +kernel
theorem dX10_readsOnce_128 : decode cX10_readsOnce 128 = .ok (.iconst 3, 1) := by decide +kernel
theorem dX10_readsOnce_129 : decode cX10_readsOnce 129 = .ok (.iload_n 2, 1) := by decide +kernel
theorem dX10_readsOnce_130 : decode cX10_readsOnce 130 = .ok (.iastore, 1) := by decide +kernel
theorem dX10_readsOnce_131 : decode cX10_readsOnce 131 = .ok (.goto 10, 3) := by decide +kernel
theorem dX10_readsOnce_134 : decode cX10_readsOnce 134 = .ok (.aload_n 0, 1) := by decide +kernel
theorem dX10_readsOnce_135 : decode cX10_readsOnce 135 = .ok (.getfield 24, 3) := by decide +kernel
theorem dX10_readsOnce_138 : decode cX10_readsOnce 138 = .ok (.iconst 4, 1) := by decide +kernel
theorem dX10_readsOnce_139 : decode cX10_readsOnce 139 = .ok (.iload_n 2, 1) := by decide +kernel
theorem dX10_readsOnce_140 : decode cX10_readsOnce 140 = .ok (.iastore, 1) := by decide +kernel
theorem dX10_readsOnce_141 : decode cX10_readsOnce 141 = .ok (.return_, 1) := by decide +kernel
theorem hyX10_readsOnce : yX10_readsOnce.cls ≠ "java/lang/invoke/MethodHandle" ∧ yX10_readsOnce.cls ≠ "java/lang/invoke/VarHandle" ∧ (parseMethodDescriptor yX10_readsOnce.desc).map (fun d => d.parameters.length) = some 1 := ⟨by decide +kernel, by decide +kernel, by decide +kernel⟩
def jX10_readsOnce_57 (σ : zS) (x0 : Nat) (x1 : Int32) (y0 : Int32) : Option zS :=
  (zck 9 σ x0 (fX10_fine σ x0 )).bind fun c3 => (if c3.2 = 0 then some c3.1 else (if x1 = 0 then (zgR 9 7 c3.1 x0).bind fun v5 => (zsI c3.1 v5 1 y0).bind fun σ6 => some σ6 else (if x1 = 1 then (zpI 9 25 c3.1 x0 y0).bind fun σ8 => some σ8 else (if x1 = 2 then (zgR 9 7 c3.1 x0).bind fun v10 => (zsI c3.1 v10 2 y0).bind fun σ11 => some σ11 else (if x1 = 3 then (zgR 9 7 c3.1 x0).bind fun v13 => (zsI c3.1 v13 3 y0).bind fun σ14 => some σ14 else (zgR 9 7 c3.1 x0).bind fun v15 => (zsI c3.1 v15 4 y0).bind fun σ16 => some σ16)))))
set_option maxRecDepth 100000 in
set_option maxHeartbeats 4000000 in
theorem wjX10_readsOnce_57 (C : zC p s m args meth c cX10_readsOnce RX10 3 D Ca B En) (hRm : zRm R 8 172 cells slots) (ev : zEv) (hZ : ∀ U : State, En U → zEnv ev B U) (σ : zS) (x0 : Nat) (x1 : Int32) (y0 : Int32) (τ : zS) (hf : jX10_readsOnce_57 σ x0 x1 y0 = some τ) (hq : ∀ (pc : Nat) (lv : List (Nat × Value)), decode cX10_readsOnce pc = .ok (.return_, 1) → zW p l e R s m args below meth c cells slots Q D Ca B 3 τ N pc lv []) : zW p l e R s m args below meth c cells slots Q D Ca B 3 σ N 57 [(0, .ref x0), (1, .int x1)] [.int y0] := by
  unfold jX10_readsOnce_57 at hf
  refine z_istore_n (lv2 := [(2, .int y0), (0, .ref x0), (1, .int x1)]) C dX10_readsOnce_57 rfl (by decide) rfl ?_
  refine z_aload_n C dX10_readsOnce_58 rfl 1 rfl ?_
  obtain ⟨c3, hc3, hf⟩ := zbind hf
  obtain ⟨kc3, hc3⟩ := zck_ok hc3
  refine z_callVi (As := []) (F0 := 8) (L0 := 172) C (mX10_fine l D Ca B En C.2.2.2.2.2.2.2.1 σ N x0  _ hc3) hRm kc3 rfl kw_1851 kw_14 kw_1848 kw_1850 kp_105 hyX10_fine (Nat.le_of_ble_eq_true rfl) (Nat.le_of_ble_eq_true rfl) rfl rfl (Nat.le_of_ble_eq_true rfl) dX10_readsOnce_59 ?_
  refine z_if_ne C 66 dX10_readsOnce_62 (by decide) (fun q17 => ?_) (fun q17 => ?_)
  · rw [if_neg q17] at hf
    refine z_iload_n C dX10_readsOnce_66 rfl 2 rfl ?_
    by_cases q4 : x1 = 0
    · rw [if_pos q4] at hf
      refine z_tableIn C 96 dX10_readsOnce_67 (by rw [q4]; decide) (by rw [q4]; decide) (by rw [q4]; rfl) (by decide) ?_
      refine z_aload_n C dX10_readsOnce_96 rfl 1 rfl ?_
      obtain ⟨v5, hv5, hf⟩ := zbind hf
      refine gf_RX10_24 C hv5 dX10_readsOnce_97 ?_
      refine z_iconst C 1 dX10_readsOnce_100 (by decide) ?_
      refine z_iload_n C dX10_readsOnce_101 rfl 0 rfl ?_
      obtain ⟨σ6, hσ6, hf⟩ := zbind hf
      refine z_sI C hσ6 dX10_readsOnce_102 ?_
      refine z_goto C 141 dX10_readsOnce_103 (by decide) ?_
      cases hf
      exact hq _ _ dX10_readsOnce_141
    · rw [if_neg q4] at hf
      by_cases q7 : x1 = 1
      · rw [if_pos q7] at hf
        refine z_tableIn C 106 dX10_readsOnce_67 (by rw [q7]; decide) (by rw [q7]; decide) (by rw [q7]; rfl) (by decide) ?_
        refine z_aload_n C dX10_readsOnce_106 rfl 1 rfl ?_
        refine z_iload_n C dX10_readsOnce_107 rfl 0 rfl ?_
        obtain ⟨σ8, hσ8, hf⟩ := zbind hf
        refine gp_RX10_69 C hσ8 dX10_readsOnce_108 ?_
        refine z_goto C 141 dX10_readsOnce_111 (by decide) ?_
        cases hf
        exact hq _ _ dX10_readsOnce_141
      · rw [if_neg q7] at hf
        by_cases q9 : x1 = 2
        · rw [if_pos q9] at hf
          refine z_tableIn C 114 dX10_readsOnce_67 (by rw [q9]; decide) (by rw [q9]; decide) (by rw [q9]; rfl) (by decide) ?_
          refine z_aload_n C dX10_readsOnce_114 rfl 1 rfl ?_
          obtain ⟨v10, hv10, hf⟩ := zbind hf
          refine gf_RX10_24 C hv10 dX10_readsOnce_115 ?_
          refine z_iconst C 2 dX10_readsOnce_118 (by decide) ?_
          refine z_iload_n C dX10_readsOnce_119 rfl 0 rfl ?_
          obtain ⟨σ11, hσ11, hf⟩ := zbind hf
          refine z_sI C hσ11 dX10_readsOnce_120 ?_
          refine z_goto C 141 dX10_readsOnce_121 (by decide) ?_
          cases hf
          exact hq _ _ dX10_readsOnce_141
        · rw [if_neg q9] at hf
          by_cases q12 : x1 = 3
          · rw [if_pos q12] at hf
            refine z_tableIn C 124 dX10_readsOnce_67 (by rw [q12]; decide) (by rw [q12]; decide) (by rw [q12]; rfl) (by decide) ?_
            refine z_aload_n C dX10_readsOnce_124 rfl 1 rfl ?_
            obtain ⟨v13, hv13, hf⟩ := zbind hf
            refine gf_RX10_24 C hv13 dX10_readsOnce_125 ?_
            refine z_iconst C 3 dX10_readsOnce_128 (by decide) ?_
            refine z_iload_n C dX10_readsOnce_129 rfl 0 rfl ?_
            obtain ⟨σ14, hσ14, hf⟩ := zbind hf
            refine z_sI C hσ14 dX10_readsOnce_130 ?_
            refine z_goto C 141 dX10_readsOnce_131 (by decide) ?_
            cases hf
            exact hq _ _ dX10_readsOnce_141
          · rw [if_neg q12] at hf
            have w9 : ∀ k : Nat, k < 4 → ¬ x1 = Int32.ofInt ((0 : Int) + k) := by
              intro k hk
              match k, hk with
              | 0, _ => exact q4
              | 1, _ => exact q7
              | 2, _ => exact q9
              | 3, _ => exact q12
              | k + 4, hk => exact absurd hk (by omega)
            refine z_tableOut C 134 dX10_readsOnce_67 (zsw 0 4 w9 (by decide)) (by decide) ?_
            refine z_aload_n C dX10_readsOnce_134 rfl 1 rfl ?_
            obtain ⟨v15, hv15, hf⟩ := zbind hf
            refine gf_RX10_24 C hv15 dX10_readsOnce_135 ?_
            refine z_iconst C 4 dX10_readsOnce_138 (by decide) ?_
            refine z_iload_n C dX10_readsOnce_139 rfl 0 rfl ?_
            obtain ⟨σ16, hσ16, hf⟩ := zbind hf
            refine z_sI C hσ16 dX10_readsOnce_140 ?_
            cases hf
            exact hq _ _ dX10_readsOnce_141
  · rw [if_pos q17] at hf
    cases hf
    exact hq _ _ dX10_readsOnce_65

def jX10_readsOnce_54 (σ : zS) (x0 : Nat) (x1 : Int32) (y0 : Int32) (y1 : Int32) (y2 : Nat) : Option zS :=
  (zck 9 σ y2 (fX10_number σ y2 y1 y0)).bind fun c2 => jX10_readsOnce_57 c2.1 x0 x1 c2.2
set_option maxRecDepth 100000 in
set_option maxHeartbeats 4000000 in
theorem wjX10_readsOnce_54 (C : zC p s m args meth c cX10_readsOnce RX10 3 D Ca B En) (hRm : zRm R 8 172 cells slots) (ev : zEv) (hZ : ∀ U : State, En U → zEnv ev B U) (σ : zS) (x0 : Nat) (x1 : Int32) (y0 : Int32) (y1 : Int32) (y2 : Nat) (τ : zS) (hf : jX10_readsOnce_54 σ x0 x1 y0 y1 y2 = some τ) (hq : ∀ (pc : Nat) (lv : List (Nat × Value)), decode cX10_readsOnce pc = .ok (.return_, 1) → zW p l e R s m args below meth c cells slots Q D Ca B 3 τ N pc lv []) : zW p l e R s m args below meth c cells slots Q D Ca B 3 σ N 54 [(0, .ref x0), (1, .int x1)] [.int y0, .int y1, .ref y2] := by
  unfold jX10_readsOnce_54 at hf
  obtain ⟨c2, hc2, hf⟩ := zbind hf
  obtain ⟨kc2, hc2⟩ := zck_ok hc2
  refine z_callVi (As := [.int y1, .int y0]) (F0 := 8) (L0 := 172) C (mX10_number l D Ca B En C.2.2.2.2.2.2.2.1 ev hZ σ N y2 y1 y0 _ hc2) hRm kc2 rfl kw_1888 kw_14 kw_1885 kw_1887 kp_113 hyX10_number (Nat.le_of_ble_eq_true rfl) (Nat.le_of_ble_eq_true rfl) rfl rfl (Nat.le_of_ble_eq_true rfl) dX10_readsOnce_54 ?_
  refine z_sub [0, 1] rfl ?_
  exact wjX10_readsOnce_57 C hRm ev hZ _ _ _ _ _ hf hq

def jX10_readsOnce_25 (σ : zS) (x0 : Nat) (x1 : Int32) (y0 : Int32) (y1 : Nat) : Option zS :=
  (if x1 = 0 then jX10_readsOnce_54 σ x0 x1 4 y0 y1 else (if x1 = 1 then jX10_readsOnce_54 σ x0 x1 2 y0 y1 else (if x1 = 2 then jX10_readsOnce_54 σ x0 x1 9 y0 y1 else jX10_readsOnce_54 σ x0 x1 99 y0 y1)))
set_option maxRecDepth 100000 in
set_option maxHeartbeats 4000000 in
theorem wjX10_readsOnce_25 (C : zC p s m args meth c cX10_readsOnce RX10 3 D Ca B En) (hRm : zRm R 8 172 cells slots) (ev : zEv) (hZ : ∀ U : State, En U → zEnv ev B U) (σ : zS) (x0 : Nat) (x1 : Int32) (y0 : Int32) (y1 : Nat) (τ : zS) (hf : jX10_readsOnce_25 σ x0 x1 y0 y1 = some τ) (hq : ∀ (pc : Nat) (lv : List (Nat × Value)), decode cX10_readsOnce pc = .ok (.return_, 1) → zW p l e R s m args below meth c cells slots Q D Ca B 3 τ N pc lv []) : zW p l e R s m args below meth c cells slots Q D Ca B 3 σ N 25 [(0, .ref x0), (1, .int x1)] [.int y0, .ref y1] := by
  unfold jX10_readsOnce_25 at hf
  refine z_iload_n C dX10_readsOnce_25 rfl 1 rfl ?_
  refine z_if_ne C 33 dX10_readsOnce_26 (by decide) (fun q20 => ?_) (fun q20 => ?_)
  · rw [if_neg q20] at hf
    refine z_iload_n C dX10_readsOnce_33 rfl 1 rfl ?_
    refine z_iconst C 1 dX10_readsOnce_34 (by decide) ?_
    refine z_icmp_ne C 42 dX10_readsOnce_35 (by decide) (fun q19 => ?_) (fun q19 => ?_)
    · rw [if_neg q19] at hf
      refine z_iload_n C dX10_readsOnce_42 rfl 1 rfl ?_
      refine z_iconst C 2 dX10_readsOnce_43 (by decide) ?_
      refine z_icmp_ne C 52 dX10_readsOnce_44 (by decide) (fun q18 => ?_) (fun q18 => ?_)
      · rw [if_neg q18] at hf
        refine z_bipush C 99 dX10_readsOnce_52 (by decide) ?_
        refine z_sub [0, 1] rfl ?_
        exact wjX10_readsOnce_54 C hRm ev hZ _ _ _ _ _ _ _ hf hq
      · rw [if_pos q18] at hf
        refine z_bipush C 9 dX10_readsOnce_47 (by decide) ?_
        refine z_goto C 54 dX10_readsOnce_49 (by decide) ?_
        refine z_sub [0, 1] rfl ?_
        exact wjX10_readsOnce_54 C hRm ev hZ _ _ _ _ _ _ _ hf hq
    · rw [if_pos q19] at hf
      refine z_iconst C 2 dX10_readsOnce_38 (by decide) ?_
      refine z_goto C 54 dX10_readsOnce_39 (by decide) ?_
      refine z_sub [0, 1] rfl ?_
      exact wjX10_readsOnce_54 C hRm ev hZ _ _ _ _ _ _ _ hf hq
  · rw [if_pos q20] at hf
    refine z_iconst C 4 dX10_readsOnce_29 (by decide) ?_
    refine z_goto C 54 dX10_readsOnce_30 (by decide) ?_
    refine z_sub [0, 1] rfl ?_
    exact wjX10_readsOnce_54 C hRm ev hZ _ _ _ _ _ _ _ hf hq

def fX10_readsOnce (σ : zS) (x0 : Nat) (x1 : Int32) : Option zS :=
  (zck 9 σ x0 (fX10_once σ x0 x1)).bind fun c1 => (if x1 = 4 then jX10_readsOnce_57 c1 x0 x1 1 else (if x1 = 3 then jX10_readsOnce_25 c1 x0 x1 0 x0 else jX10_readsOnce_25 c1 x0 x1 1 x0))
set_option maxRecDepth 100000 in
set_option maxHeartbeats 4000000 in
theorem wfX10_readsOnce (C : zC p s m args meth c cX10_readsOnce RX10 3 D Ca B En) (hRm : zRm R 8 172 cells slots) (ev : zEv) (hZ : ∀ U : State, En U → zEnv ev B U) (σ : zS) (x0 : Nat) (x1 : Int32) (τ : zS) (hf : fX10_readsOnce σ x0 x1 = some τ) (hq : ∀ (pc : Nat) (lv : List (Nat × Value)), decode cX10_readsOnce pc = .ok (.return_, 1) → zW p l e R s m args below meth c cells slots Q D Ca B 3 τ N pc lv []) : zW p l e R s m args below meth c cells slots Q D Ca B 3 σ N 0 [(0, .ref x0), (1, .int x1)] [] := by
  unfold fX10_readsOnce at hf
  refine z_aload_n C dX10_readsOnce_0 rfl 0 rfl ?_
  refine z_iload_n C dX10_readsOnce_1 rfl 1 rfl ?_
  obtain ⟨c1, hc1, hf⟩ := zbind hf
  obtain ⟨kc1, hc1⟩ := zck_ok hc1
  refine z_callVv (As := [.int x1]) (F0 := 8) (L0 := 172) C (mX10_once l D Ca B En C.2.2.2.2.2.2.2.1 ev hZ σ N x0 x1 _ hc1) hRm kc1 rfl kw_1896 kw_14 kw_1893 kw_1895 kp_115 hyX10_once (Nat.le_of_ble_eq_true rfl) (Nat.le_of_ble_eq_true rfl) rfl rfl (Nat.le_of_ble_eq_true rfl) dX10_readsOnce_2 ?_
  refine z_iload_n C dX10_readsOnce_5 rfl 1 rfl ?_
  refine z_iconst C 4 dX10_readsOnce_6 (by decide) ?_
  refine z_icmp_ne C 14 dX10_readsOnce_7 (by decide) (fun q22 => ?_) (fun q22 => ?_)
  · rw [if_neg q22] at hf
    refine z_aload_n C dX10_readsOnce_14 rfl 0 rfl ?_
    refine z_iload_n C dX10_readsOnce_15 rfl 1 rfl ?_
    refine z_iconst C 3 dX10_readsOnce_16 (by decide) ?_
    refine z_icmp_ne C 24 dX10_readsOnce_17 (by decide) (fun q21 => ?_) (fun q21 => ?_)
    · rw [if_neg q21] at hf
      refine z_iconst C 1 dX10_readsOnce_24 (by decide) ?_
      refine z_sub [0, 1] rfl ?_
      exact wjX10_readsOnce_25 C hRm ev hZ _ _ _ _ _ _ hf hq
    · rw [if_pos q21] at hf
      refine z_iconst C 0 dX10_readsOnce_20 (by decide) ?_
      refine z_goto C 25 dX10_readsOnce_21 (by decide) ?_
      refine z_sub [0, 1] rfl ?_
      exact wjX10_readsOnce_25 C hRm ev hZ _ _ _ _ _ _ hf hq
  · rw [if_pos q22] at hf
    refine z_iconst C 1 dX10_readsOnce_10 (by decide) ?_
    refine z_goto C 57 dX10_readsOnce_11 (by decide) ?_
    refine z_sub [0, 1] rfl ?_
    exact wjX10_readsOnce_57 C hRm ev hZ _ _ _ _ _ hf hq

theorem mX10_readsOnce (l : Launch) (D : va_G) (Ca : Nat → ClassId) (B : Nat) (En : State → Prop) (hE : zEk B En) (ev : zEv) (hZ : ∀ U : State, En U → zEnv ev B U) (σ : zS) (N : Nat) (x0 : Nat) (x1 : Int32) (X : zS) (hf : fX10_readsOnce σ x0 x1 = some X) : zMv l D Ca B En yX10_readsOnce cX10_readsOnce 3 (Option.none : Option Jvm.ClassFile.FieldType) 8 172 [.ref x0, .int x1] σ N X () :=
  zMet_v (own := RX10) hE (by decide +kernel) rfl (Nat.le_of_ble_eq_true rfl) (fun p e s m args below meth c C hr hRm => wfX10_readsOnce C hRm ev hZ σ x0 x1 X hf (fun pc lv hd => zfin_v (r := ()) C hr hd))
theorem dX10_statement_0 : decode cX10_statement 0 = .ok (.aload_n 0, 1) := by decide +kernel
theorem dX10_statement_1 : decode cX10_statement 1 = .ok (.iconst 5, 1) := by decide +kernel
theorem dX10_statement_2 : decode cX10_statement 2 = .ok (.invokevirtual 418, 3) := by decide +kernel
theorem dX10_statement_5 : decode cX10_statement 5 = .ok (.ifCond .eq 10, 3) := by decide +kernel
theorem dX10_statement_8 : decode cX10_statement 8 = .ok (.aload_n 0, 1) := by decide +kernel
theorem dX10_statement_9 : decode cX10_statement 9 = .ok (.invokevirtual 443, 3) := by decide +kernel
theorem dX10_statement_12 : decode cX10_statement 12 = .ok (.goto 43, 3) := by decide +kernel
theorem dX10_statement_15 : decode cX10_statement 15 = .ok (.aload_n 0, 1) := by decide +kernel
theorem dX10_statement_16 : decode cX10_statement 16 = .ok (.getfield 372, 3) := by decide +kernel
theorem dX10_statement_19 : decode cX10_statement 19 = .ok (.iconst 1, 1) := by decide +kernel
theorem dX10_statement_20 : decode cX10_statement 20 = .ok (.if_icmp .ne 29, 3) := by decide +kernel
theorem dX10_statement_23 : decode cX10_statement 23 = .ok (.aload_n 0, 1) := by decide +kernel
theorem dX10_statement_24 : decode cX10_statement 24 = .ok (.getfield 382, 3) := by decide +kernel
theorem dX10_statement_27 : decode cX10_statement 27 = .ok (.i2l, 1) := by decide +kernel
theorem dX10_statement_28 : decode cX10_statement 28 = .ok (.lconst 0, 1) := by decide +kernel
theorem dX10_statement_29 : decode cX10_statement 29 = .ok (.ldc2_w 276, 3) := by decide +kernel
theorem dX10_statement_32 : decode cX10_statement 32 = .ok (.invokestatic 247, 3) := by decide +kernel
theorem dX10_statement_35 : decode cX10_statement 35 = .ok (.ifCond .eq 14, 3) := by decide +kernel
theorem dX10_statement_38 : decode cX10_statement 38 = .ok (.aload_n 0, 1) := by decide +kernel
theorem dX10_statement_39 : decode cX10_statement 39 = .ok (.aload_n 0, 1) := by decide +kernel
theorem dX10_statement_40 : decode cX10_statement 40 = .ok (.getfield 382, 3) := by decide +kernel
theorem dX10_statement_43 : decode cX10_statement 43 = .ok (.invokevirtual 446, 3) := by decide +kernel
theorem dX10_statement_46 : decode cX10_statement 46 = .ok (.goto 9, 3) := by decide +kernel
theorem dX10_statement_49 : decode cX10_statement 49 = .ok (.aload_n 0, 1) := by decide +kernel
theorem dX10_statement_50 : decode cX10_statement 50 = .ok (.iconst 0, 1) := by decide +kernel
theorem dX10_statement_51 : decode cX10_statement 51 = .ok (.iconst 1, 1) := by decide +kernel
theorem dX10_statement_52 : decode cX10_statement 52 = .ok (.invokevirtual 411, 3) := by decide +kernel
theorem dX10_statement_55 : decode cX10_statement 55 = .ok (.aload_n 0, 1) := by decide +kernel
theorem dX10_statement_56 : decode cX10_statement 56 = .ok (.aload_n 0, 1) := by decide +kernel
theorem dX10_statement_57 : decode cX10_statement 57 = .ok (.getfield 372, 3) := by decide +kernel
theorem dX10_statement_60 : decode cX10_statement 60 = .ok (.iconst 3, 1) := by decide +kernel
theorem dX10_statement_61 : decode cX10_statement 61 = .ok (.if_icmp .ne 7, 3) := by decide +kernel
theorem dX10_statement_64 : decode cX10_statement 64 = .ok (.iconst 1, 1) := by decide +kernel
theorem dX10_statement_65 : decode cX10_statement 65 = .ok (.goto 4, 3) := by decide +kernel
theorem dX10_statement_68 : decode cX10_statement 68 = .ok (.iconst 0, 1) := by decide +kernel
theorem dX10_statement_69 : decode cX10_statement 69 = .ok (.iconst 1, 1) := by decide +kernel
theorem dX10_statement_70 : decode cX10_statement 70 = .ok (.invokevirtual 411, 3) := by decide +kernel
theorem dX10_statement_73 : decode cX10_statement 73 = .ok (.aload_n 0, 1) := by decide +kernel
theorem dX10_statement_74 : decode cX10_statement 74 = .ok (.invokevirtual 415, 3) := by decide +kernel
theorem dX10_statement_77 : decode cX10_statement 77 = .ok (.return_, 1) := by decide +kernel
theorem hyX10_statement : yX10_statement.cls ≠ "java/lang/invoke/MethodHandle" ∧ yX10_statement.cls ≠ "java/lang/invoke/VarHandle" ∧ (parseMethodDescriptor yX10_statement.desc).map (fun d => d.parameters.length) = some 0 := ⟨by decide +kernel, by decide +kernel, by decide +kernel⟩
def jX10_statement_69 (σ : zS) (x0 : Nat) (y0 : Int32) (y1 : Nat) : Option zS :=
  (zck 9 σ y1 (fX10_needs σ y1 y0 1)).bind fun c5 => (zck 9 c5 x0 (fX10_goOn c5 x0 )).bind fun c6 => some c6
set_option maxRecDepth 100000 in
set_option maxHeartbeats 4000000 in
theorem wjX10_statement_69 (C : zC p s m args meth c cX10_statement RX10 1 D Ca B En) (hRm : zRm R 10 219 cells slots) (ev : zEv) (hZ : ∀ U : State, En U → zEnv ev B U) (σ : zS) (x0 : Nat) (y0 : Int32) (y1 : Nat) (τ : zS) (hf : jX10_statement_69 σ x0 y0 y1 = some τ) (hq : ∀ (pc : Nat) (lv : List (Nat × Value)), decode cX10_statement pc = .ok (.return_, 1) → zW p l e R s m args below meth c cells slots Q D Ca B 1 τ N pc lv []) : zW p l e R s m args below meth c cells slots Q D Ca B 1 σ N 69 [(0, .ref x0)] [.int y0, .ref y1] := by
  unfold jX10_statement_69 at hf
  refine z_iconst C 1 dX10_statement_69 (by decide) ?_
  obtain ⟨c5, hc5, hf⟩ := zbind hf
  obtain ⟨kc5, hc5⟩ := zck_ok hc5
  refine z_callVv (As := [.int y0, .int 1]) (F0 := 10) (L0 := 219) C (mX10_needs l D Ca B En C.2.2.2.2.2.2.2.1 σ N y1 y0 1 _ hc5) hRm kc5 rfl kw_1867 kw_14 kw_1864 kw_1866 kp_109 hyX10_needs (Nat.le_of_ble_eq_true rfl) (Nat.le_of_ble_eq_true rfl) rfl rfl (Nat.le_of_ble_eq_true rfl) dX10_statement_70 ?_
  refine z_aload_n C dX10_statement_73 rfl 0 rfl ?_
  obtain ⟨c6, hc6, hf⟩ := zbind hf
  obtain ⟨kc6, hc6⟩ := zck_ok hc6
  refine z_callVv (As := []) (F0 := 10) (L0 := 219) C (mX10_goOn l D Ca B En C.2.2.2.2.2.2.2.1 ev hZ c5 N x0  _ hc6) hRm kc6 rfl kw_1871 kw_14 kw_1868 kw_1870 kp_110 hyX10_goOn (Nat.le_of_ble_eq_true rfl) (Nat.le_of_ble_eq_true rfl) rfl rfl (Nat.le_of_ble_eq_true rfl) dX10_statement_74 ?_
  cases hf
  exact hq _ _ dX10_statement_77

def jX10_statement_55 (σ : zS) (x0 : Nat)  : Option zS :=
  (zgI 9 19 σ x0).bind fun v4 => (if v4 = 3 then jX10_statement_69 σ x0 1 x0 else jX10_statement_69 σ x0 0 x0)
set_option maxRecDepth 100000 in
set_option maxHeartbeats 4000000 in
theorem wjX10_statement_55 (C : zC p s m args meth c cX10_statement RX10 1 D Ca B En) (hRm : zRm R 10 219 cells slots) (ev : zEv) (hZ : ∀ U : State, En U → zEnv ev B U) (σ : zS) (x0 : Nat)  (τ : zS) (hf : jX10_statement_55 σ x0  = some τ) (hq : ∀ (pc : Nat) (lv : List (Nat × Value)), decode cX10_statement pc = .ok (.return_, 1) → zW p l e R s m args below meth c cells slots Q D Ca B 1 τ N pc lv []) : zW p l e R s m args below meth c cells slots Q D Ca B 1 σ N 55 [(0, .ref x0)] [] := by
  unfold jX10_statement_55 at hf
  refine z_aload_n C dX10_statement_55 rfl 0 rfl ?_
  refine z_aload_n C dX10_statement_56 rfl 0 rfl ?_
  obtain ⟨v4, hv4, hf⟩ := zbind hf
  refine gf_RX10_372 C hv4 dX10_statement_57 ?_
  refine z_iconst C 3 dX10_statement_60 (by decide) ?_
  refine z_icmp_ne C 68 dX10_statement_61 (by decide) (fun q7 => ?_) (fun q7 => ?_)
  · rw [if_neg q7] at hf
    refine z_iconst C 0 dX10_statement_68 (by decide) ?_
    refine z_sub [0] rfl ?_
    exact wjX10_statement_69 C hRm ev hZ _ _ _ _ _ hf hq
  · rw [if_pos q7] at hf
    refine z_iconst C 1 dX10_statement_64 (by decide) ?_
    refine z_goto C 69 dX10_statement_65 (by decide) ?_
    refine z_sub [0] rfl ?_
    exact wjX10_statement_69 C hRm ev hZ _ _ _ _ _ hf hq

def jX10_statement_49 (σ : zS) (x0 : Nat)  : Option zS :=
  (zck 9 σ x0 (fX10_needs σ x0 0 1)).bind fun c3 => jX10_statement_55 c3 x0
set_option maxRecDepth 100000 in
set_option maxHeartbeats 4000000 in
theorem wjX10_statement_49 (C : zC p s m args meth c cX10_statement RX10 1 D Ca B En) (hRm : zRm R 10 219 cells slots) (ev : zEv) (hZ : ∀ U : State, En U → zEnv ev B U) (σ : zS) (x0 : Nat)  (τ : zS) (hf : jX10_statement_49 σ x0  = some τ) (hq : ∀ (pc : Nat) (lv : List (Nat × Value)), decode cX10_statement pc = .ok (.return_, 1) → zW p l e R s m args below meth c cells slots Q D Ca B 1 τ N pc lv []) : zW p l e R s m args below meth c cells slots Q D Ca B 1 σ N 49 [(0, .ref x0)] [] := by
  unfold jX10_statement_49 at hf
  refine z_aload_n C dX10_statement_49 rfl 0 rfl ?_
  refine z_iconst C 0 dX10_statement_50 (by decide) ?_
  refine z_iconst C 1 dX10_statement_51 (by decide) ?_
  obtain ⟨c3, hc3, hf⟩ := zbind hf
  obtain ⟨kc3, hc3⟩ := zck_ok hc3
  refine z_callVv (As := [.int 0, .int 1]) (F0 := 10) (L0 := 219) C (mX10_needs l D Ca B En C.2.2.2.2.2.2.2.1 σ N x0 0 1 _ hc3) hRm kc3 rfl kw_1867 kw_14 kw_1864 kw_1866 kp_109 hyX10_needs (Nat.le_of_ble_eq_true rfl) (Nat.le_of_ble_eq_true rfl) rfl rfl (Nat.le_of_ble_eq_true rfl) dX10_statement_52 ?_
  refine z_sub [0] rfl ?_
  exact wjX10_statement_55 C hRm ev hZ _ _  _ hf hq

def fX10_statement (σ : zS) (x0 : Nat) : Option zS :=
  (zck 9 σ x0 (fX10_isWord σ x0 5)).bind fun c1 => (if c1.2 = 0 then (zgI 9 19 c1.1 x0).bind fun v2 => (if v2 = 1 then (zgI 9 20 c1.1 x0).bind fun v8 => (fX10_isIn c1.1 v8.toInt64 0 4).bind fun c9 => (if c9.2 = 0 then jX10_statement_49 c9.1 x0 else (zgI 9 20 c9.1 x0).bind fun v10 => (zck 9 c9.1 x0 (fX10_readsOnce c9.1 x0 v10)).bind fun c11 => jX10_statement_55 c11 x0) else jX10_statement_49 c1.1 x0) else (zck 9 c1.1 x0 (fX10_readsSource c1.1 x0 )).bind fun c14 => jX10_statement_55 c14 x0)
set_option maxRecDepth 100000 in
set_option maxHeartbeats 4000000 in
theorem wfX10_statement (C : zC p s m args meth c cX10_statement RX10 1 D Ca B En) (hRm : zRm R 10 219 cells slots) (ev : zEv) (hZ : ∀ U : State, En U → zEnv ev B U) (σ : zS) (x0 : Nat) (τ : zS) (hf : fX10_statement σ x0 = some τ) (hq : ∀ (pc : Nat) (lv : List (Nat × Value)), decode cX10_statement pc = .ok (.return_, 1) → zW p l e R s m args below meth c cells slots Q D Ca B 1 τ N pc lv []) : zW p l e R s m args below meth c cells slots Q D Ca B 1 σ N 0 [(0, .ref x0)] [] := by
  unfold fX10_statement at hf
  refine z_aload_n C dX10_statement_0 rfl 0 rfl ?_
  refine z_iconst C 5 dX10_statement_1 (by decide) ?_
  obtain ⟨c1, hc1, hf⟩ := zbind hf
  obtain ⟨kc1, hc1⟩ := zck_ok hc1
  refine z_callVi (As := [.int 5]) (F0 := 10) (L0 := 219) C (mX10_isWord l D Ca B En C.2.2.2.2.2.2.2.1 σ N x0 5 _ hc1) hRm kc1 rfl kw_1859 kw_14 kw_1856 kw_1858 kp_107 hyX10_isWord (Nat.le_of_ble_eq_true rfl) (Nat.le_of_ble_eq_true rfl) rfl rfl (Nat.le_of_ble_eq_true rfl) dX10_statement_2 ?_
  refine z_if_eq C 15 dX10_statement_5 (by decide) (fun q15 => ?_) (fun q15 => ?_)
  · rw [if_pos q15] at hf
    refine z_aload_n C dX10_statement_15 rfl 0 rfl ?_
    obtain ⟨v2, hv2, hf⟩ := zbind hf
    refine gf_RX10_372 C hv2 dX10_statement_16 ?_
    refine z_iconst C 1 dX10_statement_19 (by decide) ?_
    refine z_icmp_ne C 49 dX10_statement_20 (by decide) (fun q13 => ?_) (fun q13 => ?_)
    · rw [if_neg q13] at hf
      refine z_sub [0] rfl ?_
      exact wjX10_statement_49 C hRm ev hZ _ _  _ hf hq
    · rw [if_pos q13] at hf
      refine z_aload_n C dX10_statement_23 rfl 0 rfl ?_
      obtain ⟨v8, hv8, hf⟩ := zbind hf
      refine gf_RX10_382 C hv8 dX10_statement_24 ?_
      refine z_i2l C dX10_statement_27 ?_
      refine z_lconst C 0 dX10_statement_28 (by decide) ?_
      refine z_ldc2 C kw_1607 dX10_statement_29 ?_
      obtain ⟨c9, hc9, hf⟩ := zbind hf
      refine z_callSi (As := [.long v8.toInt64, .long 0, .long 4]) (F0 := 10) (L0 := 219) C (mX10_isIn l D Ca B En C.2.2.2.2.2.2.2.1 c1.1 N v8.toInt64 0 4 _ hc9) hRm kw_1392 kw_14 kw_1390 kw_1391 hyX10_isIn (Nat.le_of_ble_eq_true rfl) (Nat.le_of_ble_eq_true rfl) rfl rfl (Nat.le_of_ble_eq_true rfl) dX10_statement_32 ?_
      refine z_if_eq C 49 dX10_statement_35 (by decide) (fun q12 => ?_) (fun q12 => ?_)
      · rw [if_pos q12] at hf
        refine z_sub [0] rfl ?_
        exact wjX10_statement_49 C hRm ev hZ _ _  _ hf hq
      · rw [if_neg q12] at hf
        refine z_aload_n C dX10_statement_38 rfl 0 rfl ?_
        refine z_aload_n C dX10_statement_39 rfl 0 rfl ?_
        obtain ⟨v10, hv10, hf⟩ := zbind hf
        refine gf_RX10_382 C hv10 dX10_statement_40 ?_
        obtain ⟨c11, hc11, hf⟩ := zbind hf
        obtain ⟨kc11, hc11⟩ := zck_ok hc11
        refine z_callVv (As := [.int v10]) (F0 := 10) (L0 := 219) C (mX10_readsOnce l D Ca B En C.2.2.2.2.2.2.2.1 ev hZ c9.1 N x0 v10 _ hc11) hRm kc11 rfl kw_1892 kw_14 kw_1889 kw_1891 kp_114 hyX10_readsOnce (Nat.le_of_ble_eq_true rfl) (Nat.le_of_ble_eq_true rfl) rfl rfl (Nat.le_of_ble_eq_true rfl) dX10_statement_43 ?_
        refine z_goto C 55 dX10_statement_46 (by decide) ?_
        refine z_sub [0] rfl ?_
        exact wjX10_statement_55 C hRm ev hZ _ _  _ hf hq
  · rw [if_neg q15] at hf
    refine z_aload_n C dX10_statement_8 rfl 0 rfl ?_
    obtain ⟨c14, hc14, hf⟩ := zbind hf
    obtain ⟨kc14, hc14⟩ := zck_ok hc14
    refine z_callVv (As := []) (F0 := 10) (L0 := 219) C (mX10_readsSource l D Ca B En C.2.2.2.2.2.2.2.1 ev hZ c1.1 N x0  _ hc14) hRm kc14 rfl kw_1863 kw_14 kw_1860 kw_1862 kp_108 hyX10_readsSource (Nat.le_of_ble_eq_true rfl) (Nat.le_of_ble_eq_true rfl) rfl rfl (Nat.le_of_ble_eq_true rfl) dX10_statement_9 ?_
    refine z_goto C 55 dX10_statement_12 (by decide) ?_
    refine z_sub [0] rfl ?_
    exact wjX10_statement_55 C hRm ev hZ _ _  _ hf hq

theorem mX10_statement (l : Launch) (D : va_G) (Ca : Nat → ClassId) (B : Nat) (En : State → Prop) (hE : zEk B En) (ev : zEv) (hZ : ∀ U : State, En U → zEnv ev B U) (σ : zS) (N : Nat) (x0 : Nat) (X : zS) (hf : fX10_statement σ x0 = some X) : zMv l D Ca B En yX10_statement cX10_statement 1 (Option.none : Option Jvm.ClassFile.FieldType) 10 219 [.ref x0] σ N X () :=
  zMet_v (own := RX10) hE (by decide +kernel) rfl (Nat.le_of_ble_eq_true rfl) (fun p e s m args below meth c C hr hRm => wfX10_statement C hRm ev hZ σ x0 X hf (fun pc lv hd => zfin_v (r := ()) C hr hd))
theorem dX10_startsReading_0 : decode cX10_startsReading 0 = .ok (.aload_n 0, 1) := by decide +kernel
theorem dX10_startsReading_1 : decode cX10_startsReading 1 = .ok (.aload_n 0, 1) := by decide +kernel
theorem dX10_startsReading_2 : decode cX10_startsReading 2 = .ok (.getfield 357, 3) := by decide +kernel
theorem dX10_startsReading_5 : decode cX10_startsReading 5 = .ok (.putfield 360, 3) := by decide +kernel
theorem dX10_startsReading_8 : decode cX10_startsReading 8 = .ok (.aload_n 0, 1) := by decide +kernel
theorem dX10_startsReading_9 : decode cX10_startsReading 9 = .ok (.iconst 0, 1) := by decide +kernel
theorem dX10_startsReading_10 : decode cX10_startsReading 10 = .ok (.putfield 357, 3) := by decide +kernel
theorem dX10_startsReading_13 : decode cX10_startsReading 13 = .ok (.aload_n 0, 1) := by decide +kernel
theorem dX10_startsReading_14 : decode cX10_startsReading 14 = .ok (.iconst 0, 1) := by decide +kernel
theorem dX10_startsReading_15 : decode cX10_startsReading 15 = .ok (.putfield 363, 3) := by decide +kernel
theorem dX10_startsReading_18 : decode cX10_startsReading 18 = .ok (.aload_n 0, 1) := by decide +kernel
theorem dX10_startsReading_19 : decode cX10_startsReading 19 = .ok (.invokevirtual 408, 3) := by decide +kernel
theorem dX10_startsReading_22 : decode cX10_startsReading 22 = .ok (.return_, 1) := by decide +kernel
theorem hyX10_startsReading : yX10_startsReading.cls ≠ "java/lang/invoke/MethodHandle" ∧ yX10_startsReading.cls ≠ "java/lang/invoke/VarHandle" ∧ (parseMethodDescriptor yX10_startsReading.desc).map (fun d => d.parameters.length) = some 0 := ⟨by decide +kernel, by decide +kernel, by decide +kernel⟩
def fX10_startsReading (σ : zS) (x0 : Nat) : Option zS :=
  (zgI 9 15 σ x0).bind fun v1 => (zpI 9 16 σ x0 v1).bind fun σ2 => (zpI 9 15 σ2 x0 0).bind fun σ3 => (zpI 9 17 σ3 x0 0).bind fun σ4 => (zck 9 σ4 x0 (fX10_next σ4 x0 )).bind fun c5 => some c5
set_option maxRecDepth 100000 in
set_option maxHeartbeats 4000000 in
theorem wfX10_startsReading (C : zC p s m args meth c cX10_startsReading RX10 1 D Ca B En) (hRm : zRm R 6 129 cells slots) (ev : zEv) (hZ : ∀ U : State, En U → zEnv ev B U) (σ : zS) (x0 : Nat) (τ : zS) (hf : fX10_startsReading σ x0 = some τ) (hq : ∀ (pc : Nat) (lv : List (Nat × Value)), decode cX10_startsReading pc = .ok (.return_, 1) → zW p l e R s m args below meth c cells slots Q D Ca B 1 τ N pc lv []) : zW p l e R s m args below meth c cells slots Q D Ca B 1 σ N 0 [(0, .ref x0)] [] := by
  unfold fX10_startsReading at hf
  refine z_aload_n C dX10_startsReading_0 rfl 0 rfl ?_
  refine z_aload_n C dX10_startsReading_1 rfl 0 rfl ?_
  obtain ⟨v1, hv1, hf⟩ := zbind hf
  refine gf_RX10_357 C hv1 dX10_startsReading_2 ?_
  obtain ⟨σ2, hσ2, hf⟩ := zbind hf
  refine gp_RX10_360 C hσ2 dX10_startsReading_5 ?_
  refine z_aload_n C dX10_startsReading_8 rfl 0 rfl ?_
  refine z_iconst C 0 dX10_startsReading_9 (by decide) ?_
  obtain ⟨σ3, hσ3, hf⟩ := zbind hf
  refine gp_RX10_357 C hσ3 dX10_startsReading_10 ?_
  refine z_aload_n C dX10_startsReading_13 rfl 0 rfl ?_
  refine z_iconst C 0 dX10_startsReading_14 (by decide) ?_
  obtain ⟨σ4, hσ4, hf⟩ := zbind hf
  refine gp_RX10_363 C hσ4 dX10_startsReading_15 ?_
  refine z_aload_n C dX10_startsReading_18 rfl 0 rfl ?_
  obtain ⟨c5, hc5, hf⟩ := zbind hf
  obtain ⟨kc5, hc5⟩ := zck_ok hc5
  refine z_callVv (As := []) (F0 := 6) (L0 := 129) C (mX10_next l D Ca B En C.2.2.2.2.2.2.2.1 ev hZ σ4 N x0  _ hc5) hRm kc5 rfl kw_1832 kw_14 kw_1829 kw_1831 kp_102 hyX10_next (Nat.le_of_ble_eq_true rfl) (Nat.le_of_ble_eq_true rfl) rfl rfl (Nat.le_of_ble_eq_true rfl) dX10_startsReading_19 ?_
  cases hf
  exact hq _ _ dX10_startsReading_22

theorem mX10_startsReading (l : Launch) (D : va_G) (Ca : Nat → ClassId) (B : Nat) (En : State → Prop) (hE : zEk B En) (ev : zEv) (hZ : ∀ U : State, En U → zEnv ev B U) (σ : zS) (N : Nat) (x0 : Nat) (X : zS) (hf : fX10_startsReading σ x0 = some X) : zMv l D Ca B En yX10_startsReading cX10_startsReading 1 (Option.none : Option Jvm.ClassFile.FieldType) 6 129 [.ref x0] σ N X () :=
  zMet_v (own := RX10) hE (by decide +kernel) rfl (Nat.le_of_ble_eq_true rfl) (fun p e s m args below meth c C hr hRm => wfX10_startsReading C hRm ev hZ σ x0 X hf (fun pc lv hd => zfin_v (r := ()) C hr hd))
theorem dX10_parse_0 : decode cX10_parse 0 = .ok (.aload_n 0, 1) := by decide +kernel
theorem dX10_parse_1 : decode cX10_parse 1 = .ok (.iconst 0, 1) := by decide +kernel
theorem dX10_parse_2 : decode cX10_parse 2 = .ok (.putfield 92, 3) := by decide +kernel
theorem dX10_parse_5 : decode cX10_parse 5 = .ok (.aload_n 0, 1) := by decide +kernel
theorem dX10_parse_6 : decode cX10_parse 6 = .ok (.iconst 0, 1) := by decide +kernel
theorem dX10_parse_7 : decode cX10_parse 7 = .ok (.putfield 402, 3) := by decide +kernel
theorem dX10_parse_10 : decode cX10_parse 10 = .ok (.aload_n 0, 1) := by decide +kernel
theorem dX10_parse_11 : decode cX10_parse 11 = .ok (.iconst (-1), 1) := by decide +kernel
theorem dX10_parse_12 : decode cX10_parse 12 = .ok (.putfield 44, 3) := by decide +kernel
theorem dX10_parse_15 : decode cX10_parse 15 = .ok (.aload_n 0, 1) := by decide +kernel
theorem dX10_parse_16 : decode cX10_parse 16 = .ok (.invokevirtual 60, 3) := by decide +kernel
theorem dX10_parse_19 : decode cX10_parse 19 = .ok (.aload_n 0, 1) := by decide +kernel
theorem dX10_parse_20 : decode cX10_parse 20 = .ok (.invokevirtual 449, 3) := by decide +kernel
theorem dX10_parse_23 : decode cX10_parse 23 = .ok (.aload_n 0, 1) := by decide +kernel
theorem dX10_parse_24 : decode cX10_parse 24 = .ok (.invokevirtual 405, 3) := by decide +kernel
theorem dX10_parse_27 : decode cX10_parse 27 = .ok (.ifCond .eq 17, 3) := by decide +kernel
theorem dX10_parse_30 : decode cX10_parse 30 = .ok (.aload_n 0, 1) := by decide +kernel
theorem dX10_parse_31 : decode cX10_parse 31 = .ok (.getfield 372, 3) := by decide +kernel
theorem dX10_parse_34 : decode cX10_parse 34 = .ok (.ifCond .eq 10, 3) := by decide +kernel
theorem dX10_parse_37 : decode cX10_parse 37 = .ok (.aload_n 0, 1) := by decide +kernel
theorem dX10_parse_38 : decode cX10_parse 38 = .ok (.invokevirtual 452, 3) := by decide +kernel
theorem dX10_parse_41 : decode cX10_parse 41 = .ok (.goto (-18), 3) := by decide +kernel
theorem dX10_parse_44 : decode cX10_parse 44 = .ok (.aload_n 0, 1) := by decide +kernel
theorem dX10_parse_45 : decode cX10_parse 45 = .ok (.aload_n 0, 1) := by decide +kernel
theorem dX10_parse_46 : decode cX10_parse 46 = .ok (.getfield 63, 3) := by decide +kernel
theorem dX10_parse_49 : decode cX10_parse 49 = .ok (.ifCond .le 7, 3) := by decide +kernel
theorem dX10_parse_52 : decode cX10_parse 52 = .ok (.iconst 1, 1) := by decide +kernel
theorem dX10_parse_53 : decode cX10_parse 53 = .ok (.goto 4, 3) := by decide +kernel
theorem dX10_parse_56 : decode cX10_parse 56 = .ok (.iconst 0, 1) := by decide +kernel
theorem dX10_parse_57 : decode cX10_parse 57 = .ok (.iconst 5, 1) := by decide +kernel
theorem dX10_parse_58 : decode cX10_parse 58 = .ok (.invokevirtual 411, 3) := by decide +kernel
theorem dX10_parse_61 : decode cX10_parse 61 = .ok (.aload_n 0, 1) := by decide +kernel
theorem dX10_parse_62 : decode cX10_parse 62 = .ok (.invokevirtual 405, 3) := by decide +kernel
theorem dX10_parse_65 : decode cX10_parse 65 = .ok (.ifCond .ne 5, 3) := by decide +kernel
theorem dX10_parse_68 : decode cX10_parse 68 = .ok (.iconst (-1), 1) := by decide +kernel
theorem dX10_parse_69 : decode cX10_parse 69 = .ok (.ireturn, 1) := by decide +kernel
theorem dX10_parse_70 : decode cX10_parse 70 = .ok (.aload_n 0, 1) := by decide +kernel
theorem dX10_parse_71 : decode cX10_parse 71 = .ok (.invokevirtual 66, 3) := by decide +kernel
theorem dX10_parse_74 : decode cX10_parse 74 = .ok (.aload_n 0, 1) := by decide +kernel
theorem dX10_parse_75 : decode cX10_parse 75 = .ok (.getfield 75, 3) := by decide +kernel
theorem dX10_parse_78 : decode cX10_parse 78 = .ok (.ireturn, 1) := by decide +kernel
theorem hyX10_parse : yX10_parse.cls ≠ "java/lang/invoke/MethodHandle" ∧ yX10_parse.cls ≠ "java/lang/invoke/VarHandle" ∧ (parseMethodDescriptor yX10_parse.desc).map (fun d => d.parameters.length) = some 0 := ⟨by decide +kernel, by decide +kernel, by decide +kernel⟩
def sX10_parse_23b (x0 : Nat) (σ : zS)  : Option (zS ⊕ zS) :=
  (zck 9 σ x0 (fX10_fine σ x0 )).bind fun c6 => (if c6.2 = 0 then some (.inr c6.1) else (zgI 9 19 c6.1 x0).bind fun v7 => (if v7 = 0 then some (.inr c6.1) else (zck 9 c6.1 x0 (fX10_statement c6.1 x0 )).bind fun c8 => some (.inl c8)))
def sX10_parse_23 (x0 : Nat) (z : zS) : Option (zS ⊕ zS) := sX10_parse_23b x0 z
set_option maxRecDepth 100000 in
set_option maxHeartbeats 4000000 in
theorem wsX10_parse_23b (C : zC p s m args meth c cX10_parse RX10 1 D Ca B En) (hRm : zRm R 11 239 cells slots) (ev : zEv) (hZ : ∀ U : State, En U → zEnv ev B U) (x0 : Nat) (σ : zS)  (y : zS ⊕ zS) (hf : sX10_parse_23b x0 σ  = some y) (hk : (∀ z : zS, y = .inl z → zW p l e R s m args below meth c cells slots Q D Ca B 1 z N 23 [(0, .ref x0)] []) ∧ (∀ z : zS, y = .inr z → zW p l e R s m args below meth c cells slots Q D Ca B 1 z N 44 [(0, .ref x0)] [])) : zW p l e R s m args below meth c cells slots Q D Ca B 1 σ N 23 [(0, .ref x0)] [] := by
  unfold sX10_parse_23b at hf
  refine z_aload_n C dX10_parse_23 rfl 0 rfl ?_
  obtain ⟨c6, hc6, hf⟩ := zbind hf
  obtain ⟨kc6, hc6⟩ := zck_ok hc6
  refine z_callVi (As := []) (F0 := 11) (L0 := 239) C (mX10_fine l D Ca B En C.2.2.2.2.2.2.2.1 σ N x0  _ hc6) hRm kc6 rfl kw_1851 kw_14 kw_1848 kw_1850 kp_105 hyX10_fine (Nat.le_of_ble_eq_true rfl) (Nat.le_of_ble_eq_true rfl) rfl rfl (Nat.le_of_ble_eq_true rfl) dX10_parse_24 ?_
  refine z_if_eq C 44 dX10_parse_27 (by decide) (fun q10 => ?_) (fun q10 => ?_)
  · rw [if_pos q10] at hf
    cases hf
    refine z_sub [0] rfl ?_
    exact hk.2 _ rfl
  · rw [if_neg q10] at hf
    refine z_aload_n C dX10_parse_30 rfl 0 rfl ?_
    obtain ⟨v7, hv7, hf⟩ := zbind hf
    refine gf_RX10_372 C hv7 dX10_parse_31 ?_
    refine z_if_eq C 44 dX10_parse_34 (by decide) (fun q9 => ?_) (fun q9 => ?_)
    · rw [if_pos q9] at hf
      cases hf
      refine z_sub [0] rfl ?_
      exact hk.2 _ rfl
    · rw [if_neg q9] at hf
      refine z_aload_n C dX10_parse_37 rfl 0 rfl ?_
      obtain ⟨c8, hc8, hf⟩ := zbind hf
      obtain ⟨kc8, hc8⟩ := zck_ok hc8
      refine z_callVv (As := []) (F0 := 11) (L0 := 239) C (mX10_statement l D Ca B En C.2.2.2.2.2.2.2.1 ev hZ c6.1 N x0  _ hc8) hRm kc8 rfl kw_1855 kw_14 kw_1852 kw_1854 kp_106 hyX10_statement (Nat.le_of_ble_eq_true rfl) (Nat.le_of_ble_eq_true rfl) rfl rfl (Nat.le_of_ble_eq_true rfl) dX10_parse_38 ?_
      refine z_goto C 23 dX10_parse_41 (by decide) ?_
      cases hf
      refine z_sub [0] rfl ?_
      exact hk.1 _ rfl

theorem wsX10_parse_23 (C : zC p s m args meth c cX10_parse RX10 1 D Ca B En) (hRm : zRm R 11 239 cells slots) (ev : zEv) (hZ : ∀ U : State, En U → zEnv ev B U) (x0 : Nat) (n : Nat) (z : zS) (x : zS) (hf : zloop (sX10_parse_23 x0) n z = some x) (hk : (∀ o : zS, x = o → zW p l e R s m args below meth c cells slots Q D Ca B 1 o N 44 [(0, .ref x0)] [])) : zW p l e R s m args below meth c cells slots Q D Ca B 1 z N 23 [(0, .ref x0)] [] := by
  refine zloop_W (P := fun z : zS => zW p l e R s m args below meth c cells slots Q D Ca B 1 z N 23 [(0, .ref x0)] []) (K := fun x : zS => (∀ o : zS, x = o → zW p l e R s m args below meth c cells slots Q D Ca B 1 o N 44 [(0, .ref x0)] [])) ?_ n z x hf hk
  intro z y hy h1 h2
  refine wsX10_parse_23b C hRm ev hZ x0 z y hy ⟨fun z2 e => h1 z2 e, fun o e => (h2 _ e) o rfl⟩
def jX10_parse_57 (σ : zS) (x0 : Nat) (y0 : Int32) (y1 : Nat) : Option (zS × Int32) :=
  (zck 9 σ y1 (fX10_needs σ y1 y0 5)).bind fun c13 => (zck 9 c13 x0 (fX10_fine c13 x0 )).bind fun c14 => (if c14.2 = 0 then some (c14.1, (-1)) else (zck 9 c14.1 x0 (fX10_takesDraft c14.1 x0 )).bind fun c15 => (zgI 9 1 c15 x0).bind fun v16 => some (c15, v16))
set_option maxRecDepth 100000 in
set_option maxHeartbeats 4000000 in
theorem wjX10_parse_57 (C : zC p s m args meth c cX10_parse RX10 1 D Ca B En) (hRm : zRm R 11 239 cells slots) (ev : zEv) (hZ : ∀ U : State, En U → zEnv ev B U) (σ : zS) (x0 : Nat) (y0 : Int32) (y1 : Nat) (τ : zS) (r : Int32) (hf : jX10_parse_57 σ x0 y0 y1 = some (τ, r)) (hq : ∀ (pc : Nat) (lv : List (Nat × Value)), decode cX10_parse pc = .ok (.ireturn, 1) → zW p l e R s m args below meth c cells slots Q D Ca B 1 τ N pc lv [.int r]) : zW p l e R s m args below meth c cells slots Q D Ca B 1 σ N 57 [(0, .ref x0)] [.int y0, .ref y1] := by
  unfold jX10_parse_57 at hf
  refine z_iconst C 5 dX10_parse_57 (by decide) ?_
  obtain ⟨c13, hc13, hf⟩ := zbind hf
  obtain ⟨kc13, hc13⟩ := zck_ok hc13
  refine z_callVv (As := [.int y0, .int 5]) (F0 := 11) (L0 := 239) C (mX10_needs l D Ca B En C.2.2.2.2.2.2.2.1 σ N y1 y0 5 _ hc13) hRm kc13 rfl kw_1867 kw_14 kw_1864 kw_1866 kp_109 hyX10_needs (Nat.le_of_ble_eq_true rfl) (Nat.le_of_ble_eq_true rfl) rfl rfl (Nat.le_of_ble_eq_true rfl) dX10_parse_58 ?_
  refine z_aload_n C dX10_parse_61 rfl 0 rfl ?_
  obtain ⟨c14, hc14, hf⟩ := zbind hf
  obtain ⟨kc14, hc14⟩ := zck_ok hc14
  refine z_callVi (As := []) (F0 := 11) (L0 := 239) C (mX10_fine l D Ca B En C.2.2.2.2.2.2.2.1 c13 N x0  _ hc14) hRm kc14 rfl kw_1851 kw_14 kw_1848 kw_1850 kp_105 hyX10_fine (Nat.le_of_ble_eq_true rfl) (Nat.le_of_ble_eq_true rfl) rfl rfl (Nat.le_of_ble_eq_true rfl) dX10_parse_62 ?_
  refine z_if_ne C 70 dX10_parse_65 (by decide) (fun q17 => ?_) (fun q17 => ?_)
  · rw [if_neg q17] at hf
    refine z_aload_n C dX10_parse_70 rfl 0 rfl ?_
    obtain ⟨c15, hc15, hf⟩ := zbind hf
    obtain ⟨kc15, hc15⟩ := zck_ok hc15
    refine z_callVv (As := []) (F0 := 11) (L0 := 239) C (mX10_takesDraft l D Ca B En C.2.2.2.2.2.2.2.1 c14.1 N x0  _ hc15) hRm kc15 rfl kw_1260 kw_14 kw_1257 kw_1259 kp_36 hyX10_takesDraft (Nat.le_of_ble_eq_true rfl) (Nat.le_of_ble_eq_true rfl) rfl rfl (Nat.le_of_ble_eq_true rfl) dX10_parse_71 ?_
    refine z_aload_n C dX10_parse_74 rfl 0 rfl ?_
    obtain ⟨v16, hv16, hf⟩ := zbind hf
    refine gf_RX10_75 C hv16 dX10_parse_75 ?_
    cases hf
    exact hq _ _ dX10_parse_78
  · rw [if_pos q17] at hf
    refine z_iconst C (-1) dX10_parse_68 (by decide) ?_
    cases hf
    exact hq _ _ dX10_parse_69

def jX10_parse_44 (σ : zS) (x0 : Nat)  : Option (zS × Int32) :=
  (zgI 9 24 σ x0).bind fun v12 => (if v12 ≤ 0 then jX10_parse_57 σ x0 0 x0 else jX10_parse_57 σ x0 1 x0)
set_option maxRecDepth 100000 in
set_option maxHeartbeats 4000000 in
theorem wjX10_parse_44 (C : zC p s m args meth c cX10_parse RX10 1 D Ca B En) (hRm : zRm R 11 239 cells slots) (ev : zEv) (hZ : ∀ U : State, En U → zEnv ev B U) (σ : zS) (x0 : Nat)  (τ : zS) (r : Int32) (hf : jX10_parse_44 σ x0  = some (τ, r)) (hq : ∀ (pc : Nat) (lv : List (Nat × Value)), decode cX10_parse pc = .ok (.ireturn, 1) → zW p l e R s m args below meth c cells slots Q D Ca B 1 τ N pc lv [.int r]) : zW p l e R s m args below meth c cells slots Q D Ca B 1 σ N 44 [(0, .ref x0)] [] := by
  unfold jX10_parse_44 at hf
  refine z_aload_n C dX10_parse_44 rfl 0 rfl ?_
  refine z_aload_n C dX10_parse_45 rfl 0 rfl ?_
  obtain ⟨v12, hv12, hf⟩ := zbind hf
  refine gf_RX10_63 C hv12 dX10_parse_46 ?_
  refine z_if_le C 56 dX10_parse_49 (by decide) (fun q18 => ?_) (fun q18 => ?_)
  · rw [if_pos q18] at hf
    refine z_iconst C 0 dX10_parse_56 (by decide) ?_
    refine z_sub [0] rfl ?_
    exact wjX10_parse_57 C hRm ev hZ _ _ _ _ _ _ hf hq
  · rw [if_neg q18] at hf
    refine z_iconst C 1 dX10_parse_52 (by decide) ?_
    refine z_goto C 57 dX10_parse_53 (by decide) ?_
    refine z_sub [0] rfl ?_
    exact wjX10_parse_57 C hRm ev hZ _ _ _ _ _ _ hf hq

def fX10_parse (σ : zS) (x0 : Nat) : Option (zS × Int32) :=
  (zpI 9 0 σ x0 0).bind fun σ1 => (zpI 9 22 σ1 x0 0).bind fun σ2 => (zpI 9 23 σ2 x0 ((-1))).bind fun σ3 => (zck 9 σ3 x0 (fX10_clears σ3 x0 )).bind fun c4 => (zck 9 c4 x0 (fX10_startsReading c4 x0 )).bind fun c5 => (zloop (sX10_parse_23 x0) zfuel c5).bind fun o11 => jX10_parse_44 o11 x0
set_option maxRecDepth 100000 in
set_option maxHeartbeats 4000000 in
theorem wfX10_parse (C : zC p s m args meth c cX10_parse RX10 1 D Ca B En) (hRm : zRm R 11 239 cells slots) (ev : zEv) (hZ : ∀ U : State, En U → zEnv ev B U) (σ : zS) (x0 : Nat) (τ : zS) (r : Int32) (hf : fX10_parse σ x0 = some (τ, r)) (hq : ∀ (pc : Nat) (lv : List (Nat × Value)), decode cX10_parse pc = .ok (.ireturn, 1) → zW p l e R s m args below meth c cells slots Q D Ca B 1 τ N pc lv [.int r]) : zW p l e R s m args below meth c cells slots Q D Ca B 1 σ N 0 [(0, .ref x0)] [] := by
  unfold fX10_parse at hf
  refine z_aload_n C dX10_parse_0 rfl 0 rfl ?_
  refine z_iconst C 0 dX10_parse_1 (by decide) ?_
  obtain ⟨σ1, hσ1, hf⟩ := zbind hf
  refine gp_RX10_92 C hσ1 dX10_parse_2 ?_
  refine z_aload_n C dX10_parse_5 rfl 0 rfl ?_
  refine z_iconst C 0 dX10_parse_6 (by decide) ?_
  obtain ⟨σ2, hσ2, hf⟩ := zbind hf
  refine gp_RX10_402 C hσ2 dX10_parse_7 ?_
  refine z_aload_n C dX10_parse_10 rfl 0 rfl ?_
  refine z_iconst C (-1) dX10_parse_11 (by decide) ?_
  obtain ⟨σ3, hσ3, hf⟩ := zbind hf
  refine gp_RX10_44 C hσ3 dX10_parse_12 ?_
  refine z_aload_n C dX10_parse_15 rfl 0 rfl ?_
  obtain ⟨c4, hc4, hf⟩ := zbind hf
  obtain ⟨kc4, hc4⟩ := zck_ok hc4
  refine z_callVv (As := []) (F0 := 11) (L0 := 239) C (mX10_clears l D Ca B En C.2.2.2.2.2.2.2.1 σ3 N x0  _ hc4) hRm kc4 rfl kw_1256 kw_14 kw_1253 kw_1255 kp_35 hyX10_clears (Nat.le_of_ble_eq_true rfl) (Nat.le_of_ble_eq_true rfl) rfl rfl (Nat.le_of_ble_eq_true rfl) dX10_parse_16 ?_
  refine z_aload_n C dX10_parse_19 rfl 0 rfl ?_
  obtain ⟨c5, hc5, hf⟩ := zbind hf
  obtain ⟨kc5, hc5⟩ := zck_ok hc5
  refine z_callVv (As := []) (F0 := 11) (L0 := 239) C (mX10_startsReading l D Ca B En C.2.2.2.2.2.2.2.1 ev hZ c4 N x0  _ hc5) hRm kc5 rfl kw_1828 kw_14 kw_1825 kw_1827 kp_101 hyX10_startsReading (Nat.le_of_ble_eq_true rfl) (Nat.le_of_ble_eq_true rfl) rfl rfl (Nat.le_of_ble_eq_true rfl) dX10_parse_20 ?_
  obtain ⟨o11, ho11, hf⟩ := zbind hf
  refine z_sub [0] rfl ?_
  refine wsX10_parse_23 C hRm ev hZ _ zfuel c5 o11 ho11 ?_
  intro z9 e9
  subst e9
  refine z_sub [0] rfl ?_
  exact wjX10_parse_44 C hRm ev hZ _ _  _ _ hf hq

theorem mX10_parse (l : Launch) (D : va_G) (Ca : Nat → ClassId) (B : Nat) (En : State → Prop) (hE : zEk B En) (ev : zEv) (hZ : ∀ U : State, En U → zEnv ev B U) (σ : zS) (N : Nat) (x0 : Nat) (X : zS × Int32) (hf : fX10_parse σ x0 = some X) : zMi l D Ca B En yX10_parse cX10_parse 1 (Option.some Jvm.ClassFile.FieldType.int) 11 239 [.ref x0] σ N X.1 X.2 :=
  zMet_i (own := RX10) hE (by decide +kernel) rfl (Nat.le_of_ble_eq_true rfl) (fun p e s m args below meth c C hr hRm => wfX10_parse C hRm ev hZ σ x0 X.1 X.2 hf (fun pc lv hd => zfin_i C hr hd))
theorem dX10_errorCode_0 : decode cX10_errorCode 0 = .ok (.aload_n 0, 1) := by decide +kernel
theorem dX10_errorCode_1 : decode cX10_errorCode 1 = .ok (.iconst 0, 1) := by decide +kernel
theorem dX10_errorCode_2 : decode cX10_errorCode 2 = .ok (.putfield 92, 3) := by decide +kernel
theorem dX10_errorCode_5 : decode cX10_errorCode 5 = .ok (.aload_n 0, 1) := by decide +kernel
theorem dX10_errorCode_6 : decode cX10_errorCode 6 = .ok (.getfield 402, 3) := by decide +kernel
theorem dX10_errorCode_9 : decode cX10_errorCode 9 = .ok (.ireturn, 1) := by decide +kernel
theorem hyX10_errorCode : yX10_errorCode.cls ≠ "java/lang/invoke/MethodHandle" ∧ yX10_errorCode.cls ≠ "java/lang/invoke/VarHandle" ∧ (parseMethodDescriptor yX10_errorCode.desc).map (fun d => d.parameters.length) = some 0 := ⟨by decide +kernel, by decide +kernel, by decide +kernel⟩
def fX10_errorCode (σ : zS) (x0 : Nat) : Option (zS × Int32) :=
  (zpI 9 0 σ x0 0).bind fun σ1 => (zgI 9 22 σ1 x0).bind fun v2 => some (σ1, v2)
set_option maxRecDepth 100000 in
set_option maxHeartbeats 4000000 in
theorem wfX10_errorCode (C : zC p s m args meth c cX10_errorCode RX10 1 D Ca B En) (hRm : zRm R 0 0 cells slots) (σ : zS) (x0 : Nat) (τ : zS) (r : Int32) (hf : fX10_errorCode σ x0 = some (τ, r)) (hq : ∀ (pc : Nat) (lv : List (Nat × Value)), decode cX10_errorCode pc = .ok (.ireturn, 1) → zW p l e R s m args below meth c cells slots Q D Ca B 1 τ N pc lv [.int r]) : zW p l e R s m args below meth c cells slots Q D Ca B 1 σ N 0 [(0, .ref x0)] [] := by
  unfold fX10_errorCode at hf
  refine z_aload_n C dX10_errorCode_0 rfl 0 rfl ?_
  refine z_iconst C 0 dX10_errorCode_1 (by decide) ?_
  obtain ⟨σ1, hσ1, hf⟩ := zbind hf
  refine gp_RX10_92 C hσ1 dX10_errorCode_2 ?_
  refine z_aload_n C dX10_errorCode_5 rfl 0 rfl ?_
  obtain ⟨v2, hv2, hf⟩ := zbind hf
  refine gf_RX10_402 C hv2 dX10_errorCode_6 ?_
  cases hf
  exact hq _ _ dX10_errorCode_9

theorem mX10_errorCode (l : Launch) (D : va_G) (Ca : Nat → ClassId) (B : Nat) (En : State → Prop) (hE : zEk B En) (σ : zS) (N : Nat) (x0 : Nat) (X : zS × Int32) (hf : fX10_errorCode σ x0 = some X) : zMi l D Ca B En yX10_errorCode cX10_errorCode 1 (Option.some Jvm.ClassFile.FieldType.int) 0 0 [.ref x0] σ N X.1 X.2 :=
  zMet_i (own := RX10) hE (by decide +kernel) rfl (Nat.le_of_ble_eq_true rfl) (fun p e s m args below meth c C hr hRm => wfX10_errorCode C hRm σ x0 X.1 X.2 hf (fun pc lv hd => zfin_i C hr hd))
theorem dX10_errorOffset_0 : decode cX10_errorOffset 0 = .ok (.aload_n 0, 1) := by decide +kernel
theorem dX10_errorOffset_1 : decode cX10_errorOffset 1 = .ok (.iconst 0, 1) := by decide +kernel
theorem dX10_errorOffset_2 : decode cX10_errorOffset 2 = .ok (.putfield 92, 3) := by decide +kernel
theorem dX10_errorOffset_5 : decode cX10_errorOffset 5 = .ok (.aload_n 0, 1) := by decide +kernel
theorem dX10_errorOffset_6 : decode cX10_errorOffset 6 = .ok (.getfield 44, 3) := by decide +kernel
theorem dX10_errorOffset_9 : decode cX10_errorOffset 9 = .ok (.ireturn, 1) := by decide +kernel
theorem hyX10_errorOffset : yX10_errorOffset.cls ≠ "java/lang/invoke/MethodHandle" ∧ yX10_errorOffset.cls ≠ "java/lang/invoke/VarHandle" ∧ (parseMethodDescriptor yX10_errorOffset.desc).map (fun d => d.parameters.length) = some 0 := ⟨by decide +kernel, by decide +kernel, by decide +kernel⟩
def fX10_errorOffset (σ : zS) (x0 : Nat) : Option (zS × Int32) :=
  (zpI 9 0 σ x0 0).bind fun σ1 => (zgI 9 23 σ1 x0).bind fun v2 => some (σ1, v2)
set_option maxRecDepth 100000 in
set_option maxHeartbeats 4000000 in
theorem wfX10_errorOffset (C : zC p s m args meth c cX10_errorOffset RX10 1 D Ca B En) (hRm : zRm R 0 0 cells slots) (σ : zS) (x0 : Nat) (τ : zS) (r : Int32) (hf : fX10_errorOffset σ x0 = some (τ, r)) (hq : ∀ (pc : Nat) (lv : List (Nat × Value)), decode cX10_errorOffset pc = .ok (.ireturn, 1) → zW p l e R s m args below meth c cells slots Q D Ca B 1 τ N pc lv [.int r]) : zW p l e R s m args below meth c cells slots Q D Ca B 1 σ N 0 [(0, .ref x0)] [] := by
  unfold fX10_errorOffset at hf
  refine z_aload_n C dX10_errorOffset_0 rfl 0 rfl ?_
  refine z_iconst C 0 dX10_errorOffset_1 (by decide) ?_
  obtain ⟨σ1, hσ1, hf⟩ := zbind hf
  refine gp_RX10_92 C hσ1 dX10_errorOffset_2 ?_
  refine z_aload_n C dX10_errorOffset_5 rfl 0 rfl ?_
  obtain ⟨v2, hv2, hf⟩ := zbind hf
  refine gf_RX10_44 C hv2 dX10_errorOffset_6 ?_
  cases hf
  exact hq _ _ dX10_errorOffset_9

theorem mX10_errorOffset (l : Launch) (D : va_G) (Ca : Nat → ClassId) (B : Nat) (En : State → Prop) (hE : zEk B En) (σ : zS) (N : Nat) (x0 : Nat) (X : zS × Int32) (hf : fX10_errorOffset σ x0 = some X) : zMi l D Ca B En yX10_errorOffset cX10_errorOffset 1 (Option.some Jvm.ClassFile.FieldType.int) 0 0 [.ref x0] σ N X.1 X.2 :=
  zMet_i (own := RX10) hE (by decide +kernel) rfl (Nat.le_of_ble_eq_true rfl) (fun p e s m args below meth c C hr hRm => wfX10_errorOffset C hRm σ x0 X.1 X.2 hf (fun pc lv hd => zfin_i C hr hd))
theorem dX10_find_0 : decode cX10_find 0 = .ok (.aload_n 0, 1) := by decide +kernel
theorem dX10_find_1 : decode cX10_find 1 = .ok (.iconst 0, 1) := by decide +kernel
theorem dX10_find_2 : decode cX10_find 2 = .ok (.putfield 92, 3) := by decide +kernel
theorem dX10_find_5 : decode cX10_find 5 = .ok (.aload_n 0, 1) := by decide +kernel
theorem dX10_find_6 : decode cX10_find 6 = .ok (.getfield 357, 3) := by decide +kernel
theorem dX10_find_9 : decode cX10_find 9 = .ok (.istore_n 1, 1) := by decide +kernel
theorem dX10_find_10 : decode cX10_find 10 = .ok (.aload_n 0, 1) := by decide +kernel
theorem dX10_find_11 : decode cX10_find 11 = .ok (.invokevirtual 449, 3) := by decide +kernel
theorem dX10_find_14 : decode cX10_find 14 = .ok (.aload_n 0, 1) := by decide +kernel
theorem dX10_find_15 : decode cX10_find 15 = .ok (.getfield 372, 3) := by decide +kernel
theorem dX10_find_18 : decode cX10_find 18 = .ok (.iconst 1, 1) := by decide +kernel
theorem dX10_find_19 : decode cX10_find 19 = .ok (.if_icmp .ne 24, 3) := by decide +kernel
theorem dX10_find_22 : decode cX10_find 22 = .ok (.aload_n 0, 1) := by decide +kernel
theorem dX10_find_23 : decode cX10_find 23 = .ok (.getfield 369, 3) := by decide +kernel
theorem dX10_find_26 : decode cX10_find 26 = .ok (.ifCond .ne 17, 3) := by decide +kernel
theorem dX10_find_29 : decode cX10_find 29 = .ok (.aload_n 0, 1) := by decide +kernel
theorem dX10_find_30 : decode cX10_find 30 = .ok (.getfield 363, 3) := by decide +kernel
theorem dX10_find_33 : decode cX10_find 33 = .ok (.iload_n 1, 1) := by decide +kernel
theorem dX10_find_34 : decode cX10_find 34 = .ok (.if_icmp .ne 9, 3) := by decide +kernel
theorem dX10_find_37 : decode cX10_find 37 = .ok (.iload_n 1, 1) := by decide +kernel
theorem dX10_find_38 : decode cX10_find 38 = .ok (.bipush 8, 2) := by decide +kernel
theorem dX10_find_40 : decode cX10_find 40 = .ok (.if_icmp .le 5, 3) := by decide +kernel
theorem dX10_find_43 : decode cX10_find 43 = .ok (.iconst (-1), 1) := by decide +kernel
theorem dX10_find_44 : decode cX10_find 44 = .ok (.ireturn, 1) := by decide +kernel
theorem dX10_find_45 : decode cX10_find 45 = .ok (.aload_n 0, 1) := by decide +kernel
theorem dX10_find_46 : decode cX10_find 46 = .ok (.invokevirtual 428, 3) := by decide +kernel
theorem dX10_find_49 : decode cX10_find 49 = .ok (.aload_n 0, 1) := by decide +kernel
theorem dX10_find_50 : decode cX10_find 50 = .ok (.getfield 16, 3) := by decide +kernel
theorem dX10_find_53 : decode cX10_find 53 = .ok (.aload_n 0, 1) := by decide +kernel
theorem dX10_find_54 : decode cX10_find 54 = .ok (.getfield 75, 3) := by decide +kernel
theorem dX10_find_57 : decode cX10_find 57 = .ok (.invokestatic 432, 3) := by decide +kernel
theorem dX10_find_60 : decode cX10_find 60 = .ok (.ireturn, 1) := by decide +kernel
theorem hyX10_find : yX10_find.cls ≠ "java/lang/invoke/MethodHandle" ∧ yX10_find.cls ≠ "java/lang/invoke/VarHandle" ∧ (parseMethodDescriptor yX10_find.desc).map (fun d => d.parameters.length) = some 0 := ⟨by decide +kernel, by decide +kernel, by decide +kernel⟩
def fX10_find (σ : zS) (x0 : Nat) : Option (zS × Int32) :=
  (zpI 9 0 σ x0 0).bind fun σ1 => (zgI 9 15 σ1 x0).bind fun v2 => (zck 9 σ1 x0 (fX10_startsReading σ1 x0 )).bind fun c3 => (zgI 9 19 c3 x0).bind fun v4 => (if v4 = 1 then (zgI 9 18 c3 x0).bind fun v5 => (if v5 = 0 then (zgI 9 17 c3 x0).bind fun v6 => (if v6 = v2 then (if v2 ≤ 8 then (zck 9 c3 x0 (fX10_nameHere c3 x0 )).bind fun c7 => (zgR 9 5 c7.1 x0).bind fun v8 => (zgI 9 1 c7.1 x0).bind fun v9 => (fX10_placeOf c7.1 c7.2 v8 v9).bind fun c10 => some (c10.1, c10.2) else some (c3, (-1))) else some (c3, (-1))) else some (c3, (-1))) else some (c3, (-1)))
set_option maxRecDepth 100000 in
set_option maxHeartbeats 4000000 in
theorem wfX10_find (C : zC p s m args meth c cX10_find RX10 2 D Ca B En) (hRm : zRm R 7 149 cells slots) (ev : zEv) (hZ : ∀ U : State, En U → zEnv ev B U) (σ : zS) (x0 : Nat) (τ : zS) (r : Int32) (hf : fX10_find σ x0 = some (τ, r)) (hq : ∀ (pc : Nat) (lv : List (Nat × Value)), decode cX10_find pc = .ok (.ireturn, 1) → zW p l e R s m args below meth c cells slots Q D Ca B 2 τ N pc lv [.int r]) : zW p l e R s m args below meth c cells slots Q D Ca B 2 σ N 0 [(0, .ref x0)] [] := by
  unfold fX10_find at hf
  refine z_aload_n C dX10_find_0 rfl 0 rfl ?_
  refine z_iconst C 0 dX10_find_1 (by decide) ?_
  obtain ⟨σ1, hσ1, hf⟩ := zbind hf
  refine gp_RX10_92 C hσ1 dX10_find_2 ?_
  refine z_aload_n C dX10_find_5 rfl 0 rfl ?_
  obtain ⟨v2, hv2, hf⟩ := zbind hf
  refine gf_RX10_357 C hv2 dX10_find_6 ?_
  refine z_istore_n (lv2 := [(1, .int v2), (0, .ref x0)]) C dX10_find_9 rfl (by decide) rfl ?_
  refine z_aload_n C dX10_find_10 rfl 1 rfl ?_
  obtain ⟨c3, hc3, hf⟩ := zbind hf
  obtain ⟨kc3, hc3⟩ := zck_ok hc3
  refine z_callVv (As := []) (F0 := 7) (L0 := 149) C (mX10_startsReading l D Ca B En C.2.2.2.2.2.2.2.1 ev hZ σ1 N x0  _ hc3) hRm kc3 rfl kw_1828 kw_14 kw_1825 kw_1827 kp_101 hyX10_startsReading (Nat.le_of_ble_eq_true rfl) (Nat.le_of_ble_eq_true rfl) rfl rfl (Nat.le_of_ble_eq_true rfl) dX10_find_11 ?_
  refine z_aload_n C dX10_find_14 rfl 1 rfl ?_
  obtain ⟨v4, hv4, hf⟩ := zbind hf
  refine gf_RX10_372 C hv4 dX10_find_15 ?_
  refine z_iconst C 1 dX10_find_18 (by decide) ?_
  refine z_icmp_ne C 43 dX10_find_19 (by decide) (fun q14 => ?_) (fun q14 => ?_)
  · rw [if_neg q14] at hf
    refine z_iconst C (-1) dX10_find_43 (by decide) ?_
    cases hf
    exact hq _ _ dX10_find_44
  · rw [if_pos q14] at hf
    refine z_aload_n C dX10_find_22 rfl 1 rfl ?_
    obtain ⟨v5, hv5, hf⟩ := zbind hf
    refine gf_RX10_369 C hv5 dX10_find_23 ?_
    refine z_if_ne C 43 dX10_find_26 (by decide) (fun q13 => ?_) (fun q13 => ?_)
    · rw [if_neg q13] at hf
      refine z_iconst C (-1) dX10_find_43 (by decide) ?_
      cases hf
      exact hq _ _ dX10_find_44
    · rw [if_pos q13] at hf
      refine z_aload_n C dX10_find_29 rfl 1 rfl ?_
      obtain ⟨v6, hv6, hf⟩ := zbind hf
      refine gf_RX10_363 C hv6 dX10_find_30 ?_
      refine z_iload_n C dX10_find_33 rfl 0 rfl ?_
      refine z_icmp_ne C 43 dX10_find_34 (by decide) (fun q12 => ?_) (fun q12 => ?_)
      · rw [if_neg q12] at hf
        refine z_iconst C (-1) dX10_find_43 (by decide) ?_
        cases hf
        exact hq _ _ dX10_find_44
      · rw [if_pos q12] at hf
        refine z_iload_n C dX10_find_37 rfl 0 rfl ?_
        refine z_bipush C 8 dX10_find_38 (by decide) ?_
        refine z_icmp_le C 45 dX10_find_40 (by decide) (fun q11 => ?_) (fun q11 => ?_)
        · rw [if_pos q11] at hf
          refine z_aload_n C dX10_find_45 rfl 1 rfl ?_
          obtain ⟨c7, hc7, hf⟩ := zbind hf
          obtain ⟨kc7, hc7⟩ := zck_ok hc7
          refine z_callVl (As := []) (F0 := 7) (L0 := 149) C (mX10_nameHere l D Ca B En C.2.2.2.2.2.2.2.1 c3 N x0  _ hc7) hRm kc7 rfl kw_1875 kw_14 kw_1872 kw_1874 kp_111 hyX10_nameHere (Nat.le_of_ble_eq_true rfl) (Nat.le_of_ble_eq_true rfl) rfl rfl (Nat.le_of_ble_eq_true rfl) dX10_find_46 ?_
          refine z_aload_n C dX10_find_49 rfl 1 rfl ?_
          obtain ⟨v8, hv8, hf⟩ := zbind hf
          refine gf_RX10_16 C hv8 dX10_find_50 ?_
          refine z_aload_n C dX10_find_53 rfl 1 rfl ?_
          obtain ⟨v9, hv9, hf⟩ := zbind hf
          refine gf_RX10_75 C hv9 dX10_find_54 ?_
          obtain ⟨c10, hc10, hf⟩ := zbind hf
          refine z_callSi (As := [.long c7.2, .ref v8, .int v9]) (F0 := 7) (L0 := 149) C (mX10_placeOf l D Ca B En C.2.2.2.2.2.2.2.1 c7.1 N c7.2 v8 v9 _ hc10) hRm kw_1880 kw_14 kw_1878 kw_1879 hyX10_placeOf (Nat.le_of_ble_eq_true rfl) (Nat.le_of_ble_eq_true rfl) rfl rfl (Nat.le_of_ble_eq_true rfl) dX10_find_57 ?_
          cases hf
          exact hq _ _ dX10_find_60
        · rw [if_neg q11] at hf
          refine z_iconst C (-1) dX10_find_43 (by decide) ?_
          cases hf
          exact hq _ _ dX10_find_44

theorem mX10_find (l : Launch) (D : va_G) (Ca : Nat → ClassId) (B : Nat) (En : State → Prop) (hE : zEk B En) (ev : zEv) (hZ : ∀ U : State, En U → zEnv ev B U) (σ : zS) (N : Nat) (x0 : Nat) (X : zS × Int32) (hf : fX10_find σ x0 = some X) : zMi l D Ca B En yX10_find cX10_find 2 (Option.some Jvm.ClassFile.FieldType.int) 7 149 [.ref x0] σ N X.1 X.2 :=
  zMet_i (own := RX10) hE (by decide +kernel) rfl (Nat.le_of_ble_eq_true rfl) (fun p e s m args below meth c C hr hRm => wfX10_find C hRm ev hZ σ x0 X.1 X.2 hf (fun pc lv hd => zfin_i C hr hd))
theorem dX10_says_0 : decode cX10_says 0 = .ok (.aload_n 0, 1) := by decide +kernel
theorem dX10_says_1 : decode cX10_says 1 = .ok (.getfield 57, 3) := by decide +kernel
theorem dX10_says_4 : decode cX10_says 4 = .ok (.aload_n 0, 1) := by decide +kernel
theorem dX10_says_5 : decode cX10_says 5 = .ok (.getfield 455, 3) := by decide +kernel
theorem dX10_says_8 : decode cX10_says 8 = .ok (.iload_n 1, 1) := by decide +kernel
theorem dX10_says_9 : decode cX10_says 9 = .ok (.i2b, 1) := by decide +kernel
theorem dX10_says_10 : decode cX10_says 10 = .ok (.bastore, 1) := by decide +kernel
theorem dX10_says_11 : decode cX10_says 11 = .ok (.aload_n 0, 1) := by decide +kernel
theorem dX10_says_12 : decode cX10_says 12 = .ok (.aload_n 0, 1) := by decide +kernel
theorem dX10_says_13 : decode cX10_says 13 = .ok (.getfield 455, 3) := by decide +kernel
theorem dX10_says_16 : decode cX10_says 16 = .ok (.iconst 1, 1) := by decide +kernel
theorem dX10_says_17 : decode cX10_says 17 = .ok (.iadd, 1) := by decide +kernel
theorem dX10_says_18 : decode cX10_says 18 = .ok (.putfield 455, 3) := by decide +kernel
theorem dX10_says_21 : decode cX10_says 21 = .ok (.return_, 1) := by decide +kernel
theorem hyX10_says : yX10_says.cls ≠ "java/lang/invoke/MethodHandle" ∧ yX10_says.cls ≠ "java/lang/invoke/VarHandle" ∧ (parseMethodDescriptor yX10_says.desc).map (fun d => d.parameters.length) = some 1 := ⟨by decide +kernel, by decide +kernel, by decide +kernel⟩
def fX10_says (σ : zS) (x0 : Nat) (x1 : Int32) : Option zS :=
  (zgR 9 30 σ x0).bind fun v1 => (zgI 9 31 σ x0).bind fun v2 => (zsB σ v1 v2 x1.toInt8.toInt32).bind fun σ3 => (zgI 9 31 σ3 x0).bind fun v4 => (zpI 9 31 σ3 x0 (v4 + 1)).bind fun σ5 => some σ5
set_option maxRecDepth 100000 in
set_option maxHeartbeats 4000000 in
theorem wfX10_says (C : zC p s m args meth c cX10_says RX10 2 D Ca B En) (hRm : zRm R 0 0 cells slots) (σ : zS) (x0 : Nat) (x1 : Int32) (τ : zS) (hf : fX10_says σ x0 x1 = some τ) (hq : ∀ (pc : Nat) (lv : List (Nat × Value)), decode cX10_says pc = .ok (.return_, 1) → zW p l e R s m args below meth c cells slots Q D Ca B 2 τ N pc lv []) : zW p l e R s m args below meth c cells slots Q D Ca B 2 σ N 0 [(0, .ref x0), (1, .int x1)] [] := by
  unfold fX10_says at hf
  refine z_aload_n C dX10_says_0 rfl 0 rfl ?_
  obtain ⟨v1, hv1, hf⟩ := zbind hf
  refine gf_RX10_57 C hv1 dX10_says_1 ?_
  refine z_aload_n C dX10_says_4 rfl 0 rfl ?_
  obtain ⟨v2, hv2, hf⟩ := zbind hf
  refine gf_RX10_455 C hv2 dX10_says_5 ?_
  refine z_iload_n C dX10_says_8 rfl 1 rfl ?_
  refine z_i2b C dX10_says_9 ?_
  obtain ⟨σ3, hσ3, hf⟩ := zbind hf
  refine z_sB C hσ3 dX10_says_10 ?_
  refine z_aload_n C dX10_says_11 rfl 0 rfl ?_
  refine z_aload_n C dX10_says_12 rfl 0 rfl ?_
  obtain ⟨v4, hv4, hf⟩ := zbind hf
  refine gf_RX10_455 C hv4 dX10_says_13 ?_
  refine z_iconst C 1 dX10_says_16 (by decide) ?_
  refine z_iadd C dX10_says_17 ?_
  obtain ⟨σ5, hσ5, hf⟩ := zbind hf
  refine gp_RX10_455 C hσ5 dX10_says_18 ?_
  cases hf
  exact hq _ _ dX10_says_21

theorem mX10_says (l : Launch) (D : va_G) (Ca : Nat → ClassId) (B : Nat) (En : State → Prop) (hE : zEk B En) (σ : zS) (N : Nat) (x0 : Nat) (x1 : Int32) (X : zS) (hf : fX10_says σ x0 x1 = some X) : zMv l D Ca B En yX10_says cX10_says 2 (Option.none : Option Jvm.ClassFile.FieldType) 0 0 [.ref x0, .int x1] σ N X () :=
  zMet_v (own := RX10) hE (by decide +kernel) rfl (Nat.le_of_ble_eq_true rfl) (fun p e s m args below meth c C hr hRm => wfX10_says C hRm σ x0 x1 X hf (fun pc lv hd => zfin_v (r := ()) C hr hd))
theorem dX10_outputByte_0 : decode cX10_outputByte 0 = .ok (.aload_n 0, 1) := by decide +kernel
theorem dX10_outputByte_1 : decode cX10_outputByte 1 = .ok (.iconst 0, 1) := by decide +kernel
theorem dX10_outputByte_2 : decode cX10_outputByte 2 = .ok (.putfield 92, 3) := by decide +kernel
theorem dX10_outputByte_5 : decode cX10_outputByte 5 = .ok (.iload_n 1, 1) := by decide +kernel
theorem dX10_outputByte_6 : decode cX10_outputByte 6 = .ok (.i2l, 1) := by decide +kernel
theorem dX10_outputByte_7 : decode cX10_outputByte 7 = .ok (.lconst 0, 1) := by decide +kernel
theorem dX10_outputByte_8 : decode cX10_outputByte 8 = .ok (.aload_n 0, 1) := by decide +kernel
theorem dX10_outputByte_9 : decode cX10_outputByte 9 = .ok (.getfield 455, 3) := by decide +kernel
theorem dX10_outputByte_12 : decode cX10_outputByte 12 = .ok (.i2l, 1) := by decide +kernel
theorem dX10_outputByte_13 : decode cX10_outputByte 13 = .ok (.lconst 1, 1) := by decide +kernel
theorem dX10_outputByte_14 : decode cX10_outputByte 14 = .ok (.lsub, 1) := by decide +kernel
theorem dX10_outputByte_15 : decode cX10_outputByte 15 = .ok (.invokestatic 247, 3) := by decide +kernel
theorem dX10_outputByte_18 : decode cX10_outputByte 18 = .ok (.ifCond .eq 12, 3) := by decide +kernel
theorem dX10_outputByte_21 : decode cX10_outputByte 21 = .ok (.aload_n 0, 1) := by decide +kernel
theorem dX10_outputByte_22 : decode cX10_outputByte 22 = .ok (.getfield 57, 3) := by decide +kernel
theorem dX10_outputByte_25 : decode cX10_outputByte 25 = .ok (.iload_n 1, 1) := by decide +kernel
theorem dX10_outputByte_26 : decode cX10_outputByte 26 = .ok (.baload, 1) := by decide +kernel
theorem dX10_outputByte_27 : decode cX10_outputByte 27 = .ok (.goto 4, 3) := by decide +kernel
theorem dX10_outputByte_30 : decode cX10_outputByte 30 = .ok (.iconst (-1), 1) := by decide +kernel
theorem dX10_outputByte_31 : decode cX10_outputByte 31 = .ok (.ireturn, 1) := by decide +kernel
theorem hyX10_outputByte : yX10_outputByte.cls ≠ "java/lang/invoke/MethodHandle" ∧ yX10_outputByte.cls ≠ "java/lang/invoke/VarHandle" ∧ (parseMethodDescriptor yX10_outputByte.desc).map (fun d => d.parameters.length) = some 1 := ⟨by decide +kernel, by decide +kernel, by decide +kernel⟩
def fX10_outputByte (σ : zS) (x0 : Nat) (x1 : Int32) : Option (zS × Int32) :=
  (zpI 9 0 σ x0 0).bind fun σ1 => (zgI 9 31 σ1 x0).bind fun v2 => (fX10_isIn σ1 x1.toInt64 0 (v2.toInt64 - 1)).bind fun c3 => (if c3.2 = 0 then some (c3.1, (-1)) else (zgR 9 30 c3.1 x0).bind fun v4 => (zaB c3.1 v4 x1).bind fun v5 => some (c3.1, v5))
set_option maxRecDepth 100000 in
set_option maxHeartbeats 4000000 in
theorem wfX10_outputByte (C : zC p s m args meth c cX10_outputByte RX10 2 D Ca B En) (hRm : zRm R 1 25 cells slots) (σ : zS) (x0 : Nat) (x1 : Int32) (τ : zS) (r : Int32) (hf : fX10_outputByte σ x0 x1 = some (τ, r)) (hq : ∀ (pc : Nat) (lv : List (Nat × Value)), decode cX10_outputByte pc = .ok (.ireturn, 1) → zW p l e R s m args below meth c cells slots Q D Ca B 2 τ N pc lv [.int r]) : zW p l e R s m args below meth c cells slots Q D Ca B 2 σ N 0 [(0, .ref x0), (1, .int x1)] [] := by
  unfold fX10_outputByte at hf
  refine z_aload_n C dX10_outputByte_0 rfl 0 rfl ?_
  refine z_iconst C 0 dX10_outputByte_1 (by decide) ?_
  obtain ⟨σ1, hσ1, hf⟩ := zbind hf
  refine gp_RX10_92 C hσ1 dX10_outputByte_2 ?_
  refine z_iload_n C dX10_outputByte_5 rfl 1 rfl ?_
  refine z_i2l C dX10_outputByte_6 ?_
  refine z_lconst C 0 dX10_outputByte_7 (by decide) ?_
  refine z_aload_n C dX10_outputByte_8 rfl 0 rfl ?_
  obtain ⟨v2, hv2, hf⟩ := zbind hf
  refine gf_RX10_455 C hv2 dX10_outputByte_9 ?_
  refine z_i2l C dX10_outputByte_12 ?_
  refine z_lconst C 1 dX10_outputByte_13 (by decide) ?_
  refine z_lsub C dX10_outputByte_14 ?_
  obtain ⟨c3, hc3, hf⟩ := zbind hf
  refine z_callSi (As := [.long x1.toInt64, .long 0, .long (v2.toInt64 - 1)]) (F0 := 1) (L0 := 25) C (mX10_isIn l D Ca B En C.2.2.2.2.2.2.2.1 σ1 N x1.toInt64 0 (v2.toInt64 - 1) _ hc3) hRm kw_1392 kw_14 kw_1390 kw_1391 hyX10_isIn (Nat.le_of_ble_eq_true rfl) (Nat.le_of_ble_eq_true rfl) rfl rfl (Nat.le_of_ble_eq_true rfl) dX10_outputByte_15 ?_
  refine z_if_eq C 30 dX10_outputByte_18 (by decide) (fun q6 => ?_) (fun q6 => ?_)
  · rw [if_pos q6] at hf
    refine z_iconst C (-1) dX10_outputByte_30 (by decide) ?_
    cases hf
    exact hq _ _ dX10_outputByte_31
  · rw [if_neg q6] at hf
    refine z_aload_n C dX10_outputByte_21 rfl 0 rfl ?_
    obtain ⟨v4, hv4, hf⟩ := zbind hf
    refine gf_RX10_57 C hv4 dX10_outputByte_22 ?_
    refine z_iload_n C dX10_outputByte_25 rfl 1 rfl ?_
    obtain ⟨v5, hv5, hf⟩ := zbind hf
    refine z_aB C hv5 dX10_outputByte_26 ?_
    refine z_goto C 31 dX10_outputByte_27 (by decide) ?_
    cases hf
    exact hq _ _ dX10_outputByte_31

theorem mX10_outputByte (l : Launch) (D : va_G) (Ca : Nat → ClassId) (B : Nat) (En : State → Prop) (hE : zEk B En) (σ : zS) (N : Nat) (x0 : Nat) (x1 : Int32) (X : zS × Int32) (hf : fX10_outputByte σ x0 x1 = some X) : zMi l D Ca B En yX10_outputByte cX10_outputByte 2 (Option.some Jvm.ClassFile.FieldType.int) 1 25 [.ref x0, .int x1] σ N X.1 X.2 :=
  zMet_i (own := RX10) hE (by decide +kernel) rfl (Nat.le_of_ble_eq_true rfl) (fun p e s m args below meth c C hr hRm => wfX10_outputByte C hRm σ x0 x1 X.1 X.2 hf (fun pc lv hd => zfin_i C hr hd))
end ZM
