/-! The class's flow is rescaled. -/
def qdealt (P : qP) (n : Nat) (M : qM) : qM := (qu M.1 1 (n : Int), (fun c => if 54 ≤ c ∧ c < 78 then qpart P n (fun d => M.2.1 (54 + d)) (c - 54) else M.2.1 c), M.2.2)
section KW
variable {σ : zS} {f b u n : Nat} {V : Nat → Nat → Int32} {M N : qM} {P : qP}
theorem RC_ext (hC : RC V b M) (h1 : ∀ k, k < 144 → N.1 k = M.1 k) (h2 : ∀ c, c < 78 → N.2.1 c = M.2.1 c) (h3 : ∀ c, c < 24 → N.2.2 c = M.2.2 c) : RC V b N :=
  ⟨hC.1, RF_of hC.2.1 (row_of hC.2.1.1 (fun _ _ => rfl) (fun j hj => gF_of (fun k hk => h1 k (by omega)) hj)) (fun _ _ => rfl) (fun k _ hk => h1 k (by omega)) (fun c hc => h2 c (by omega)) h3, RP_of hC.2.2.1 (fun _ _ _ => rfl) (fun k hk => h1 k (by omega)) (fun c _ hc => h2 c (by omega)), RL_of hC.2.2.2 (fun _ _ _ => rfl) (fun k _ hk => h1 k (by omega)) (fun c _ hc => h2 c (by omega))⟩
theorem qdealt_S {k : Nat} (h : k ≠ 1) : (qdealt P n M).1 k = M.1 k := qu_ne h
theorem qdealt_L {c : Nat} (h : c < 54 ∨ 78 ≤ c) : (qdealt P n M).2.1 c = M.2.1 c := if_neg (by omega)
theorem qdealt_D {c : Nat} (h : c < 24) : (qdealt P n M).2.1 (54 + c) = qpart P n (fun d => M.2.1 (54 + d)) c := by
  refine (if_pos (by omega)).trans ?_
  rw [show 54 + c - 54 = c from by omega]
theorem qdealt_sS {k : Nat} : (qshow P (qdealt P n M)).1 k = qu (qshow P M).1 1 (n : Int) k := by
  unfold qshow
  rw [qdealt_S (by omega), qdealt_S (by omega)]
  by_cases e : M.1 118 = 1 ∧ M.1 123 = 0
  · rw [if_pos e, if_pos e]
    show qu (qu M.1 1 (n : Int)) 123 1 k = qu (qu M.1 123 1) 1 (n : Int) k
    by_cases e1 : k = 1
    · rw [e1, qu_at, qu_ne (by omega), qu_at]
    · rw [qu_ne e1]
      by_cases e2 : k = 123
      · rw [e2, qu_at, qu_at]
      · rw [qu_ne e2, qu_ne e2, qu_ne e1]
  · rw [if_neg e, if_neg e]; rfl
theorem qdealt_sL {c : Nat} (hP : qPok P) (h : c < 54) : (qshow P (qdealt P n M)).2.1 c = (qshow P M).2.1 c := by
  unfold qshow
  rw [qdealt_S (by omega), qdealt_S (by omega)]
  by_cases e : M.1 118 = 1 ∧ M.1 123 = 0
  · rw [if_pos e, if_pos e]
    dsimp only
    rw [qdealt_L (by omega), qdealt_L (by omega)]
  · rw [if_neg e, if_neg e]; exact qdealt_L (by omega)
theorem qdealt_S2 (k : Nat) : (qfail P (qdealt P n M)).1 k = (qrescale P n M).1 k := by
  show _ = qu (qfail P M).1 1 (n : Int) k
  unfold qfail
  dsimp only
  by_cases e : k = 1
  · rw [e, qu_at]
    show (qshow P (qdealt P n M)).1 1 = n
    rw [qdealt_sS, qu_at]
  · rw [qu_ne e]
    by_cases e1 : k = 67
    · rw [if_pos e1, if_pos e1]
    · rw [if_neg e1, if_neg e1]
      by_cases e2 : k = 7
      · rw [if_pos e2, if_pos e2, qdealt_sS, qu_ne (by omega)]
      · rw [if_neg e2, if_neg e2]
        by_cases e3 : 13 ≤ k ∧ k < 33
        · rw [if_pos e3, if_pos e3, qdealt_sS, qu_ne (by omega)]
        · rw [if_neg e3, if_neg e3]
          by_cases e4 : 33 ≤ k ∧ k < 67
          · rw [if_pos e4, if_pos e4]
          · rw [if_neg e4, if_neg e4, qdealt_sS, qu_ne e]
theorem qfail_D {c : Nat} (hP : qPok P) (hc : c < 24) : (qfail P M).2.1 (54 + c) = M.2.1 (54 + c) := by
  refine (if_neg (by omega)).trans ((if_neg (by omega)).trans ((if_neg (by omega)).trans (qshow_L (by omega) hP)))
theorem qdealt_L2 (hP : qPok P) {c : Nat} (hc : c < 78) : (qfail P (qdealt P n M)).2.1 c = (qrescale P n M).2.1 c := by
  by_cases e : c < 24
  · rw [qres_L e, qpart_congr e (fun d hd => qfail_D hP hd)]
    refine (if_pos e).trans ?_
    rw [qshow_L (by omega) hP, qdealt_D e]
  · by_cases e2 : 54 ≤ c
    · obtain ⟨d, rfl⟩ : ∃ d, c = 54 + d := ⟨c - 54, by omega⟩
      rw [qres_D (by omega), qfail_D hP (by omega), qdealt_D (by omega), qpart_congr (by omega) (fun d hd => qfail_D hP hd)]
    · have e3 : (qrescale P n M).2.1 c = (qfail P M).2.1 c := (if_neg e).trans (if_neg (by omega))
      rw [e3]
      unfold qfail
      dsimp only
      rw [if_neg e, if_neg e]
      by_cases e4 : c < 28
      · rw [if_pos e4, if_pos e4]
      · rw [if_neg e4, if_neg e4]
        by_cases e5 : 30 ≤ c ∧ c < 54
        · rw [if_pos e5, if_pos e5]
        · rw [if_neg e5, if_neg e5]
          exact qdealt_sL hP (by omega)
theorem sum24 (g : Nat → Nat) : ((List.range 24).map g).sum = (g 0 + g 4 + g 8 + g 12) + (g 1 + g 5 + g 9 + g 13) + (g 2 + g 6 + g 10 + g 14) + (g 3 + g 7 + g 11 + g 15) + (g 16 + g 17 + g 18 + g 19) + (g 20 + g 21 + g 22 + g 23) := by
  simp only [List.range_succ, List.range_zero, List.map_append, List.map_cons, List.map_nil, List.sum_append, List.sum_cons, List.sum_nil, List.nil_append]
  omega
theorem flat_len (D : Nat → List Nat) : ((List.range 4).flatMap D).length = (D 0).length + (D 1).length + (D 2).length + (D 3).length := by
  simp only [List.range_succ, List.range_zero, List.nil_append, List.flatMap_append, List.flatMap_cons, List.flatMap_nil, List.length_append, List.length_nil]
  omega
theorem qdealt_tot (hI : qI P M) (hn : 1 ≤ n ∧ n ≤ 4) : gtot (qdealt P n M) 54 = gtot M 54 := by
  have hP := hI.1.1
  have own : ∀ r, qown (qkey P r) n < 4 := fun r => by have := qown_lt (k := qkey P r) hn.1; omega
  have lineI : ∀ s, s < 4 → (qpart P n (fun d => M.2.1 (54 + d)) (0 + s)).length + (qpart P n (fun d => M.2.1 (54 + d)) (4 + s)).length + (qpart P n (fun d => M.2.1 (54 + d)) (8 + s)).length + (qpart P n (fun d => M.2.1 (54 + d)) (12 + s)).length = (M.2.1 (54 + (0 + s))).length + (M.2.1 (54 + (4 + s))).length + (M.2.1 (54 + (8 + s))).length + (M.2.1 (54 + (12 + s))).length := by
    intro s hs
    by_cases e : s < P.1
    · have k := len4 (A := (List.range 4).flatMap (fun i => M.2.1 (54 + (4 * i + s)))) (g := fun r => qown (qkey P r) n) (fun r _ => own r)
      have q : ∀ i, i < 4 → qpart P n (fun d => M.2.1 (54 + d)) (4 * i + s) = ((List.range 4).flatMap (fun i => M.2.1 (54 + (4 * i + s)))).filter (fun r => qown (qkey P r) n == i) := fun i hi => by
        unfold qpart
        rw [if_pos (by omega), if_pos (by omega), show (4 * i + s) % 4 = s from by omega, show (4 * i + s) / 4 = i from by omega]
      have q0 := q 0 (by omega)
      have q1 := q 1 (by omega)
      have q2 := q 2 (by omega)
      have q3 := q 3 (by omega)
      rw [show 4 * 0 + s = 0 + s from by omega] at q0
      rw [show 4 * 1 + s = 4 + s from by omega] at q1
      rw [show 4 * 2 + s = 8 + s from by omega] at q2
      rw [show 4 * 3 + s = 12 + s from by omega] at q3
      rw [q0, q1, q2, q3]
      refine k.trans ((flat_len _).trans ?_)
      dsimp only
    · have z : ∀ i, i < 4 → M.2.1 (54 + (4 * i + s)) = [] := fun i hi => by
        rw [List.eq_nil_iff_forall_not_mem]
        intro r hr
        have r3 := (qI_recF hI (by omega) hr).2.2
        have a := (qI_atF hI (Or.inr rfl) (c := 4 * i + s) (by omega) hr).2.1 (by omega)
        omega
      have q : ∀ i, i < 4 → qpart P n (fun d => M.2.1 (54 + d)) (4 * i + s) = [] := fun i hi => by
        unfold qpart
        rw [if_pos (by omega), if_neg (by omega)]
      have q0 := q 0 (by omega)
      have q1 := q 1 (by omega)
      have q2 := q 2 (by omega)
      have q3 := q 3 (by omega)
      have z0 := z 0 (by omega)
      have z1 := z 1 (by omega)
      have z2 := z 2 (by omega)
      have z3 := z 3 (by omega)
      rw [show 4 * 0 + s = 0 + s from by omega] at q0 z0
      rw [show 4 * 1 + s = 4 + s from by omega] at q1 z1
      rw [show 4 * 2 + s = 8 + s from by omega] at q2 z2
      rw [show 4 * 3 + s = 12 + s from by omega] at q3 z3
      rw [q0, q1, q2, q3, z0, z1, z2, z3]
  have lineO : ∀ k, k < 2 → (qpart P n (fun d => M.2.1 (54 + d)) (16 + 4 * k + 0)).length + (qpart P n (fun d => M.2.1 (54 + d)) (16 + 4 * k + 1)).length + (qpart P n (fun d => M.2.1 (54 + d)) (16 + 4 * k + 2)).length + (qpart P n (fun d => M.2.1 (54 + d)) (16 + 4 * k + 3)).length = (M.2.1 (54 + (16 + 4 * k + 0))).length + (M.2.1 (54 + (16 + 4 * k + 1))).length + (M.2.1 (54 + (16 + 4 * k + 2))).length + (M.2.1 (54 + (16 + 4 * k + 3))).length := by
    intro k hk
    by_cases e : k < P.2.1
    · have kk := len4 (A := (List.range 4).flatMap (fun i => M.2.1 (54 + (16 + 4 * k + i)))) (g := fun r => qown (qkey P r) n) (fun r _ => own r)
      have q : ∀ i, i < 4 → qpart P n (fun d => M.2.1 (54 + d)) (16 + 4 * k + i) = ((List.range 4).flatMap (fun i => M.2.1 (54 + (16 + 4 * k + i)))).filter (fun r => qown (qkey P r) n == i) := fun i hi => by
        unfold qpart
        rw [if_neg (by omega), if_pos (by omega), show (16 + 4 * k + i) % 4 = i from by omega, show 4 * ((16 + 4 * k + i) / 4) = 16 + 4 * k from by omega]
      rw [q 0 (by omega), q 1 (by omega), q 2 (by omega), q 3 (by omega)]
      exact kk.trans (flat_len _)
    · have z : ∀ i, i < 4 → M.2.1 (54 + (16 + 4 * k + i)) = [] := fun i hi => by
        rw [List.eq_nil_iff_forall_not_mem]
        intro r hr
        have a := (qI_atF hI (Or.inr rfl) (c := 16 + 4 * k + i) (by omega) hr).2.2.1 (by omega) (by omega)
        have h5 := qsk_lt (k := qkey P r) hP.2.2.1
        have h6 := qown_lt (k := qkey P r) (qN_many hI.1.2.1).1
        have h7 := qN_many hI.1.2.1
        omega
      have q : ∀ i, i < 4 → qpart P n (fun d => M.2.1 (54 + d)) (16 + 4 * k + i) = [] := fun i hi => by
        unfold qpart
        rw [if_neg (by omega), if_neg (by omega)]
      rw [q 0 (by omega), q 1 (by omega), q 2 (by omega), q 3 (by omega), z 0 (by omega), z 1 (by omega), z 2 (by omega), z 3 (by omega)]
  unfold gtot
  have e0 : (List.range 24).map (fun c => ((qdealt P n M).2.1 (54 + c)).length) = (List.range 24).map (fun c => (qpart P n (fun d => M.2.1 (54 + d)) c).length) := List.map_congr_left (fun c hc => by rw [qdealt_D (List.mem_range.mp hc)])
  rw [e0, sum24, sum24]
  have a0 := lineI 0 (by omega)
  have a1 := lineI 1 (by omega)
  have a2 := lineI 2 (by omega)
  have a3 := lineI 3 (by omega)
  have b0 := lineO 0 (by omega)
  have b1 := lineO 1 (by omega)
  simp only [Nat.zero_add, Nat.add_zero, Nat.mul_zero, Nat.mul_one, Nat.reduceAdd] at a0 a1 a2 a3 b0 b1 ⊢
  omega
theorem k_deals {W : Nat → Nat → Int32} {L2 : Nat → List Nat} (hI : qI P M) (hC : RC V b M) (hn : 1 ≤ n ∧ n ≤ 4) (h118 : M.1 118 = 1 → LLD W (31 - b + 4) L2 ∧ ∀ c, c < 24 → L2 c = qpart P n (fun d => M.2.1 (54 + d)) c) (h24 : ∀ c, 24 ≤ c → L2 c = []) (fW : ∀ p, (p ≤ 31 - b + 4 ∨ 31 - b + 4 + 4 < p) → W p = V p) : RC (vs W 0 0 (zi n)) b (qdealt P n M) := by
  have hx := hC.1
  have hx2 := fx_other hx
  have fb := flen_k hx
  have fk := flen_k hx2.1
  have hbb : b = 11 ∨ b = 20 := hx
  have w : ∀ p, p ≠ 0 → (p ≤ 31 - b + 4 ∨ 31 - b + 4 + 4 < p) → vs W 0 0 (zi n) p = V p := fun p p0 hp => by rw [vs_no p0]; exact fW p hp
  have w0 : ∀ j, j ≠ 0 → vs W 0 0 (zi n) 0 j = V 0 j := fun j hj => by rw [vs_ne (by omega), fW 0 (by omega)]
  refine ⟨hx, RF_of hC.2.1 (fun j hj => ?_) (fun p hp => w p (by omega) (by omega)) (fun k k1 k2 => qdealt_S (by omega)) (fun c hc => qdealt_L (by omega)) (fun _ _ => rfl), RP_of hC.2.2.1 (fun p p1 p2 => w p (by omega) (by have := fx_far hx p1 p2; omega)) (fun k hk => qdealt_S (by omega)) (fun c c1 c2 => qdealt_L (by omega)), ?_⟩
  · by_cases e : j = 0
    · rw [e, vs_at]
      show zi n = zi (qu M.1 1 (n : Int) 1)
      rw [qu_at]
    · rw [w0 j e, hC.2.1.1 j hj]
      have : j = 1 ∨ j = 2 ∨ j = 3 ∨ j = 4 ∨ j = 5 ∨ j = 6 ∨ j = 7 ∨ j = 8 := by omega
      rcases this with rfl | rfl | rfl | rfl | rfl | rfl | rfl | rfl <;> rfl
  · obtain ⟨a0, a1⟩ := hC.2.2.2
    refine ⟨?_, fun q => ?_⟩
    · rw [w _ (by omega) (by omega), a0, qdealt_S (by omega), qdealt_S (by omega)]
    · rw [qdealt_S (by omega)] at q
      obtain ⟨c1, c2, c3, c4, c6, r2, r3, l⟩ := a1 q
      obtain ⟨d1, d2⟩ := h118 q
      rw [qdealt_tot hI hn, qdealt_S (by omega), qdealt_S (by omega), qdealt_S (by omega), qdealt_S (by omega), w (31 - b) (by omega) (by omega)]
      refine ⟨c1, c2, c3, c4, c6, row_of r2 (fun j _ => by rw [w _ (by omega) (by omega)]) (fun j hj => qdealt_S (by omega)), row_of r3 (fun j _ => by rw [w _ (by omega) (by omega)]) (fun j hj => qdealt_S (by omega)), LL_of2 d1.1 (fun p p1 p2 => vs_no (by omega)) (fun c hc => ?_)⟩
      by_cases e : c < 24
      · rw [gK_lo e, qdealt_D e, d2 c e]
      · rw [gK_hi (by omega), h24 c (by omega)]
theorem k_recoverWith (h : KS σ f u P) (hI : qI P M) (hT : KT M) (hC : RC V b M) (hn : 1 ≤ n ∧ n ≤ 4) : ∃ W, fX1_recoverWith (fput σ f V b u) f (zi n) = some (fput σ f W b u) ∧ RC W b (qrescale P n M) := by
  have hS := h.1
  have hP := h.2.2.2
  have hx2 := fx_other hC.1
  have hT' : KT (qdealt P n M) := hT
  have hR : KR P (qdealt P n M) := by
    have k := KR_I hI
    refine ⟨LD_congr k.1 (fun l hl => qdealt_L (by omega)), k.2.1, k.2.2.1, k.2.2.2.1, fun q => ⟨fun j hj => (qdealt_S (by omega)).trans ((k.2.2.2.2.1 q).1 j hj), fun c hc => ?_⟩, LD_congr (LD_I (qI_rescale hI hn)) (fun l hl => qdealt_L2 hP (by omega))⟩
    rw [qdealt_D hc, qpart_congr (E := fun _ => []) hc (fun d hd => (k.2.2.2.2.1 q).2 d hd), qpart_nil]
  have key : ∀ W L2, (M.1 118 = 1 → LLD W (31 - b + 4) L2 ∧ ∀ c, c < 24 → L2 c = qpart P n (fun d => M.2.1 (54 + d)) c) → (∀ c, 24 ≤ c → L2 c = []) → (∀ p, (p ≤ 31 - b + 4 ∨ 31 - b + 4 + 4 < p) → W p = V p) → ∃ W2, jX1_recoverWith_26 (fput σ f W b u) f (zi n) = some (fput σ f W2 b u) ∧ RC W2 b (qrescale P n M) := by
    intro W L2 k1 k2 k3
    have hC2 := k_deals hI hC hn k1 k2 k3
    obtain ⟨W2, e2, hW2⟩ := k_recover0 h hR hT' hC2
    refine ⟨W2, ?_, RC_ext hW2 (fun k _ => (qdealt_S2 k).symm) (fun c hc => (qdealt_L2 hP hc).symm) (fun _ _ => rfl)⟩
    unfold jX1_recoverWith_26
    rw [fp_i hS, Option.bind_some, fc_1 hS, e2, Option.bind_some]
  unfold fX1_recoverWith
  rw [fr_16 hS, Option.bind_some, fc_0 hS hx2.1, k_done hS hC hI.1.2.2.2.2.2.2.2.2 hT.2.2.2, Option.bind_some]
  dsimp only
  by_cases e : M.1 118 = 1
  · obtain ⟨W1, L2, e1, a1, a2, a3, a4⟩ := k_spread (V := V) (b := b) h hI hx2.1 hn (hC.2.2.2.2 e).2.2.2.2.2.2.2
    have hm : M.1 1 = (qmany M : Int) := qI_many hI
    rw [decide_eq_true e, if_neg (show ¬ zb true = zi 0 from by decide), fr_16 hS, Option.bind_some, fr_17 hS, Option.bind_some, fg_i hS, Option.bind_some, hC.2.1.1 0 (by omega), show gF M 0 = (qmany M : Int) from hm, fc_0 hS hx2.1, e1, Option.bind_some]
    exact key W1 L2 (fun _ => ⟨a1, a2⟩) a3 a4
  · rw [decide_eq_false e, if_pos (show zb false = zi 0 from rfl)]
    exact key V (fun _ => []) (fun q => absurd q e) (fun _ _ => rfl) (fun _ _ => rfl)
end KW
