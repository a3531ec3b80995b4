/-! THE CLASS'S CHANGES. -/
section CB
variable {σ : zS} {X w b sz q : Nat} {P : qP} {M N : qM} {H : List qM} {S : Option qM} {nm : Nat → List Int32} {sv : Bool} {tx ou : List Int32} {er ea z : Int} {V : Nat → Nat → Int32} {G : Nat → Option qM}
/-- the parts of a state, and the flow now -/
theorem CI_open (h : CI σ X P nm M H S tx er ea ou) (hQ : QI z P M H S) (hz : z < 900000000) : ∃ w q G V b, CR σ X w P nm S.isSome H.length q tx er ea ou ∧ FW σ X (X + w) G ∧ G 0 = some M ∧ (∀ N, S = some N → G 2 = some N) ∧ (∀ k, k < H.length → G (3 + (q + 6 - k) % 6) = H[k]?) ∧ CN σ X w V b P M := by
  obtain ⟨w, q, G, h1, h2, h3, h4, h5⟩ := h
  obtain ⟨V, b, hN⟩ := CN_of h1 h2 h3 hQ.1.1 hQ.1.2 hz
  exact ⟨w, q, G, V, b, h1, h2, h3, h4, h5, hN⟩
/-- what a change begins with: the state is remembered -/
theorem CI_rem (h : CI σ X P nm M H S tx er ea ou) (hQ : QI z P M H S) (hz : z < 900000000) : ∃ τ w q G V b, fX6_remember σ (X + 119) (fpl X 0) = some τ ∧ csh σ X ∧ zfr X (X + 307) σ τ ∧ CR τ X w P nm S.isSome ((M :: H).take 6).length q tx er ea ou ∧ FW τ X (X + w) G ∧ (∀ N, S = some N → G 2 = some N) ∧ (∀ k, k < ((M :: H).take 6).length → G (3 + (q + 6 - k) % 6) = ((M :: H).take 6)[k]?) ∧ CN τ X w V b P M := by
  obtain ⟨w, q, G, V, b, h1, h2, h3, h4, h5, hN⟩ := CI_open h hQ hz
  obtain ⟨τ, q2, G2, e, k1, k2, k3, k4, k5, k6⟩ := c_rem h1 h2 h3 h4 h5 hN.2.2.1 hN.2.2.2.1
  obtain ⟨V2, b2, hN2⟩ := CN_of k1 k2 k3 hQ.1.1 hQ.1.2 hz
  exact ⟨τ, w, q2, G2, V2, b2, e, h1.1, k6, k1, k2, k4, k5, hN2⟩
theorem ca_run {t : Int} (h : CI σ X P nm M H S tx er ea ou) (hQ : QI z P M H S) (hz : z < 800000000) (ht : zin t) : (aTicks t = true → ∃ τ, fX9_run σ X (zi t) = some (τ, zi ((qit P t.toNat M).1 6 - M.1 6)) ∧ CI τ X P nm (qit P t.toNat M) ((M :: H).take 6) S tx er ea ou ∧ zfr X (X + 307) σ τ) ∧ (aTicks t = false → tX9_run σ X (zi t) = some 2) := by
  obtain ⟨n1, n2⟩ := cq_needTicks (τ := σ) ht
  refine ⟨fun k => ?_, fun k => ?_⟩
  · obtain ⟨m1, m2⟩ := n1 k
    unfold aTicks at k
    rw [decide_eq_true_iff] at k
    obtain ⟨n, rfl⟩ := nat_of (show 0 ≤ t from by omega)
    rw [Int.toNat_natCast]
    obtain ⟨τ, w, q, G, V, b, e, hc, hf, hR, hF, hS, hH, hN⟩ := CI_rem h hQ (by omega)
    obtain ⟨W, b2, eW, hW⟩ := k_ticks (step := sX9_run_25 X (zi (n : Int)) (zi (M.1 6))) n hN.2.2.2.2 hN.2.2.1 hQ.1.2 (by omega) hN.2.1 (by omega) (fun i W b2 hi => by
      unfold sX9_run_25 sX9_run_25b
      dsimp only
      rw [if_neg (zi_nle (by omega) (by omega) (by omega)), cx_now (CR_put hR (by omega)).1, Option.bind_some, fc_1 hN.1.1]) (fun W b2 => by
      unfold sX9_run_25 sX9_run_25b
      dsimp only
      rw [if_pos (zi_yle (by omega) (by omega) (Int.le_refl _))])
    rw [fput_self hN.1] at eW
    refine ⟨_, ?_, CI_now hR hF hS hH hW, zfr_trans hf (zfr_slot (by omega))⟩
    unfold fX9_run
    rw [m1, Option.bind_some, cx_past hc, Option.bind_some, cx_now hc, Option.bind_some, cx_6 hc, e, Option.bind_some, cx_now hR.1, Option.bind_some, CN_i hN (by omega), Option.bind_some, show gF M 6 = M.1 6 from rfl, eW, Option.bind_some, cx_now (CR_put hR (by omega)).1, Option.bind_some, fg_i hN.1.1, Option.bind_some, hW.2.1.1 6 (by omega), show ∀ K : qM, gF K 6 = K.1 6 from fun _ => rfl, zi_sub]
  · unfold tX9_run
    rw [n2 k]
theorem ca_begin {d : Bool} (h : CI σ X P nm M H S tx er ea ou) (hQ : QI z P M H S) (hz : z < 800000000) : (M.1 67 ≠ 1 → ∃ τ, fX9_begin σ X (zb d) = some (τ, zi (M.1 5 + 1)) ∧ CI τ X P nm (qbegin (if d then 1 else 0) M) ((M :: H).take 6) S tx er ea ou ∧ zfr X (X + 307) σ τ) ∧ (M.1 67 = 1 → tX9_begin σ X (zb d) = some 3) := by
  obtain ⟨w0, q0, G0, V0, b0, h1, h2, h3, h4, h5, hN0⟩ := CI_open h hQ (by omega)
  have hd : zb d = zi (if d then 1 else 0) := by cases d <;> rfl
  refine ⟨fun k => ?_, fun k => ?_⟩
  · obtain ⟨τ, w, q, G, V, b, e, hc, hf, hR, hF, hS, hH, hN⟩ := CI_rem h hQ (by omega)
    obtain ⟨W, eW, hW⟩ := k_begin (u := X + w) (ov := if d then 1 else 0) hN.1.1 hN.2.1 (by cases d <;> simp)
    rw [fput_self hN.1] at eW
    refine ⟨_, ?_, CI_now hR hF hS hH hW, zfr_trans hf (zfr_slot (by omega))⟩
    unfold fX9_begin
    rw [cx_now hc, Option.bind_some, fi_15 hN0.1, Option.bind_some, CN_0 hN0 hN0.2.1.1, CN_exists hN0, Option.bind_some]
    dsimp only
    rw [decide_eq_false k, if_pos (show zb false = zi 0 from rfl), cx_past hc, Option.bind_some, cx_now hc, Option.bind_some, cx_6 hc, e, Option.bind_some, cx_now hR.1, Option.bind_some, CN_c hN, hd, eW, Option.bind_some, cx_now (CR_put hR (by omega)).1, Option.bind_some, fr_15 hN.1.1, Option.bind_some, cg_i hN.1.1 hN.2.1.1, Option.bind_some, hW.2.2.1.1]
    rfl
  · unfold tX9_begin
    rw [cx_now h1.1, Option.bind_some, fi_15 hN0.1, Option.bind_some, CN_0 hN0 hN0.2.1.1, CN_exists hN0, Option.bind_some]
    dsimp only
    rw [decide_eq_true k, if_neg (show ¬ zb true = zi 0 from by decide)]
theorem ca_fail (h : CI σ X P nm M H S tx er ea ou) (hQ : QI z P M H S) (hz : z < 800000000) : ∃ τ, fX9_fail σ X = some (τ, zi (qrisk P M)) ∧ CI τ X P nm (qfail P M) ((M :: H).take 6) S tx er ea ou ∧ zfr X (X + 307) σ τ := by
  obtain ⟨τ, w, q, G, V, b, e, hc, hf, hR, hF, hS, hH, hN⟩ := CI_rem h hQ (by omega)
  obtain ⟨W, eW, hW⟩ := k_recover hN.2.2.2.2 hN.2.2.1 hN.2.2.2.1 hN.2.1
  rw [fput_self hN.1] at eW
  refine ⟨_, ?_, CI_now hR hF hS hH hW, zfr_trans hf (zfr_slot (by omega))⟩
  unfold fX9_fail
  rw [cx_past hc, Option.bind_some, cx_now hc, Option.bind_some, cx_6 hc, e, Option.bind_some, cx_now hR.1, Option.bind_some, CN_c hN, CN_risk hN, Option.bind_some]
  dsimp only
  rw [cx_now hR.1, Option.bind_some, CN_c hN, eW, Option.bind_some]
theorem ca_moved {τ : zS} {a n : Nat} (ha : a < 10) (hn : n < 10) : fX9_groupsMoved τ (zi a) (zi n) = some (τ, zi (qmoved a n)) := by
  unfold fX9_groupsMoved
  rw [zcnt 8 (fun g => !(g * a / 8 == g * n / 8)) (fun g y hg => by
    unfold sX9_groupsMoved_4 sX9_groupsMoved_4b
    dsimp only
    rw [if_neg (zi_nle (by omega) (by omega) (by omega)), c_owner (by omega) ha, Option.bind_some]
    dsimp only
    rw [c_owner (by omega) hn, Option.bind_some]
    dsimp only
    have o1 : qown g a = g * a / 8 := by unfold qown; rw [Nat.mod_eq_of_lt hg]
    have o2 : qown g n = g * n / 8 := by unfold qown; rw [Nat.mod_eq_of_lt hg]
    have b1 : g * a ≤ 7 * 9 := Nat.mul_le_mul (by omega) (by omega)
    have b2 : g * n ≤ 7 * 9 := Nat.mul_le_mul (by omega) (by omega)
    have b3 : g * a / 8 ≤ 7 := by omega
    have b4 : g * n / 8 ≤ 7 := by omega
    rw [o1, o2]
    generalize g * a / 8 = u at *
    generalize g * n / 8 = v at *
    unfold jX9_groupsMoved_26_L4
    by_cases e : u = v
    · rw [if_pos (by rw [e]), if_neg (by simp [e]), Int.add_zero]
    · rw [if_neg (by rw [zi_eq (by omega) (by omega) (by omega) (by omega)]; omega), if_pos (by simp [e]), zi_add]) (fun y => by
    unfold sX9_groupsMoved_4 sX9_groupsMoved_4b
    dsimp only
    rw [if_pos (by decide)]) (by omega), Option.bind_some]
  rfl
theorem ca_resc {n : Int} (h : CI σ X P nm M H S tx er ea ou) (hQ : QI z P M H S) (hz : z < 800000000) (hn : zin n) : (1 ≤ n ∧ n ≤ 4 → ∃ τ, fX9_rescale σ X (zi n) = some (τ, zi (qmoved (qmany M) n.toNat)) ∧ CI τ X P nm (qrescale P n.toNat M) ((M :: H).take 6) S tx er ea ou ∧ zfr X (X + 307) σ τ) ∧ (¬ (1 ≤ n ∧ n ≤ 4) → tX9_rescale σ X (zi n) = some 2) := by
  refine ⟨fun k => ?_, fun k => ?_⟩
  · obtain ⟨t, rfl⟩ := nat_of (show 0 ≤ n from by omega)
    rw [Int.toNat_natCast]
    obtain ⟨τ, w, q, G, V, b, e, hc, hf, hR, hF, hS, hH, hN⟩ := CI_rem h hQ (by omega)
    have h4 := qN_many hN.2.2.1.1.2.1
    obtain ⟨W, eW, hW⟩ := k_recoverWith (n := t) hN.2.2.2.2 hN.2.2.1 hN.2.2.2.1 hN.2.1 (by omega)
    rw [fput_self hN.1] at eW
    refine ⟨_, ?_, CI_now hR hF hS hH hW, zfr_trans hf (zfr_slot (by omega))⟩
    unfold fX9_rescale
    rw [if_neg (by rw [zi_lt hn.1 hn.2 (by omega) (by omega)]; omega), if_pos (zi_yle (by omega) (by omega) (by omega)), cx_past hc, Option.bind_some, cx_now hc, Option.bind_some, cx_6 hc, e, Option.bind_some, cx_now hR.1, Option.bind_some, CN_many hN, Option.bind_some, ca_moved (by omega) (by omega), Option.bind_some]
    dsimp only
    rw [cx_now hR.1, Option.bind_some, CN_c hN, eW, Option.bind_some]
  · unfold tX9_rescale
    by_cases k1 : n < 1
    · rw [if_pos (by rw [zi_lt hn.1 hn.2 (by omega) (by omega)]; exact k1)]
    · rw [if_neg (by rw [zi_lt hn.1 hn.2 (by omega) (by omega)]; exact k1), if_neg (zi_nle (by omega) (by have := hn.2; omega) (by omega))]
/-- a number of the flow itself is set -/
theorem RC_num {j k : Nat} {v : Int} (hC : RC V b M) (hjk : j = 1 ∧ k = 2 ∨ j = 2 ∧ k = 3 ∨ j = 3 ∧ k = 4) : RC (vs V 0 j (zi v)) b (qS M k v) := by
  have hb : b = 11 ∨ b = 20 := hC.1
  have n1 : ∀ i, i ≠ k → (qS M k v).1 i = M.1 i := fun i hi => qu_ne hi
  refine RC_own hC (RF_of hC.2.1 (fun i hi => ?_) (fun p hp => vs_no (by omega)) (fun i k1 k2 => n1 i (by omega)) (fun _ _ => rfl) (fun _ _ => rfl)) (fun p p1 p2 => vs_no (by omega)) (fun i hi => n1 i (by omega)) (fun _ _ _ => rfl)
  by_cases e : i = j
  · rw [e, vs_at]
    have nk : (qS M k v).1 k = v := qu_at _ _ _
    rcases hjk with ⟨rfl, rfl⟩ | ⟨rfl, rfl⟩ | ⟨rfl, rfl⟩
    · exact congrArg zi nk.symm
    · exact congrArg zi nk.symm
    · exact congrArg zi nk.symm
  · rw [vs_ne (by omega), hC.2.1.1 i hi]
    refine congrArg zi ?_
    unfold gF
    by_cases e0 : i = 0
    · rw [if_pos e0, if_pos e0]; exact (n1 1 (by omega)).symm
    · rw [if_neg e0, if_neg e0]
      by_cases e1 : i = 1
      · rw [if_pos e1, if_pos e1]; exact (n1 2 (by omega)).symm
      · rw [if_neg e1, if_neg e1]
        by_cases e2 : i = 2
        · rw [if_pos e2, if_pos e2]; exact (n1 3 (by omega)).symm
        · rw [if_neg e2, if_neg e2]
          by_cases e3 : i = 3
          · rw [if_pos e3, if_pos e3]; exact (n1 4 (by omega)).symm
          · rw [if_neg e3, if_neg e3]
            by_cases e4 : i = 4
            · rw [if_pos e4, if_pos e4]; exact (n1 0 (by omega)).symm
            · rw [if_neg e4, if_neg e4]; exact (n1 i (by omega)).symm
theorem RC_lag {s : Nat} {v : Int} (hC : RC V b M) (hs : s < 4) : RC (vs V 1 s (zi v)) b (qS M (9 + s) v) := by
  have hb : b = 11 ∨ b = 20 := hC.1
  have n1 : ∀ i, i ≠ 9 + s → (qS M (9 + s) v).1 i = M.1 i := fun i hi => qu_ne hi
  have hF := hC.2.1
  refine RC_own hC ⟨row_of hF.1 (fun j _ => by rw [vs_no (by omega)]) (fun j hj => gF_of (fun i hi => n1 i (by omega)) hj), fun j hj => ?_, row_of hF.2.2.1 (fun j _ => by rw [vs_no (by omega)]) (fun j hj => n1 _ (by omega)), row_of hF.2.2.2.1 (fun j _ => by rw [vs_no (by omega)]) (fun j hj => n1 _ (by omega)), row_of hF.2.2.2.2.1 (fun j _ => by rw [vs_no (by omega)]) (fun j hj => n1 _ (by omega)), row_of hF.2.2.2.2.2.1 (fun j _ => by rw [vs_no (by omega)]) (fun j hj => gmask_of fun y hy => n1 _ (by omega)), row_of hF.2.2.2.2.2.2.1 (fun j _ => by rw [vs_no (by omega)]) (fun j hj => n1 _ (by omega)), row_of hF.2.2.2.2.2.2.2.1 (fun j _ => by rw [vs_no (by omega)]) (fun _ _ => rfl), LL_of2 hF.2.2.2.2.2.2.2.2 (fun p p1 p2 => vs_no (by omega)) (fun _ _ => rfl)⟩ (fun p p1 p2 => vs_no (by omega)) (fun i hi => n1 i (by omega)) (fun _ _ _ => rfl)
  by_cases e : j = s
  · rw [e, vs_at]; exact congrArg zi (qu_at M.1 (9 + s) v).symm
  · rw [vs_ne (by omega), hF.2.1 j hj]; exact congrArg zi (n1 (9 + j) (by omega)).symm
theorem ca_room {r : Int} (h : CI σ X P nm M H S tx er ea ou) (hQ : QI z P M H S) (hz : z < 800000000) (hr : zin r) : (1 ≤ r ∧ r ≤ 9 → ∃ τ, fX9_setRoom σ X (zi r) = some (τ, zi (M.1 2)) ∧ CI τ X P nm (qS M 2 r) ((M :: H).take 6) S tx er ea ou ∧ zfr X (X + 307) σ τ) ∧ (¬ (1 ≤ r ∧ r ≤ 9) → tX9_setRoom σ X (zi r) = some 2) := by
  refine ⟨fun k => ?_, fun k => ?_⟩
  · obtain ⟨τ, w, q, G, V, b, e, hc, hf, hR, hF, hS, hH, hN⟩ := CI_rem h hQ (by omega)
    have hp := fp_i (σ := τ) (V := V) (b := b) (u := X + w) (j := 1) (v := zi r) hN.1.1
    rw [fput_self hN.1] at hp
    refine ⟨_, ?_, CI_now hR hF hS hH (RC_num (j := 1) (k := 2) hN.2.1 (Or.inl ⟨rfl, rfl⟩)), zfr_trans hf (zfr_slot (by omega))⟩
    unfold fX9_setRoom
    rw [if_neg (by rw [zi_lt hr.1 hr.2 (by omega) (by omega)]; omega), if_pos (zi_yle (by omega) (by omega) (by omega)), cx_past hc, Option.bind_some, cx_now hc, Option.bind_some, cx_6 hc, e, Option.bind_some, cx_now hR.1, Option.bind_some, CN_i hN (by omega), Option.bind_some, Option.bind_some, hp, Option.bind_some]
    rfl
  · unfold tX9_setRoom
    by_cases k1 : r < 1
    · rw [if_pos (by rw [zi_lt hr.1 hr.2 (by omega) (by omega)]; exact k1)]
    · rw [if_neg (by rw [zi_lt hr.1 hr.2 (by omega) (by omega)]; exact k1), if_neg (zi_nle (by omega) (by have := hr.2; omega) (by omega))]
theorem ca_lag {a r : Int} (h : CI σ X P nm M H S tx er ea ou) (hQ : QI z P M H S) (hz : z < 800000000) (ha : zin a) (hr : zin r) : ((0 ≤ a ∧ a < P.1) ∧ 0 ≤ r ∧ r ≤ 9 → ∃ τ, fX9_setLag σ X (zi a) (zi r) = some (τ, zi (M.1 (9 + a.toNat))) ∧ CI τ X P nm (qS M (9 + a.toNat) r) ((M :: H).take 6) S tx er ea ou ∧ zfr X (X + 307) σ τ) ∧ (¬ (0 ≤ a ∧ a < P.1) → tX9_setLag σ X (zi a) (zi r) = some 1) ∧ ((0 ≤ a ∧ a < P.1) ∧ ¬ (0 ≤ r ∧ r ≤ 9) → tX9_setLag σ X (zi a) (zi r) = some 2) := by
  obtain ⟨w0, q0, G0, V0, b0, h1, h2, h3, h4, h5, hN0⟩ := CI_open h hQ (by omega)
  obtain ⟨n1, n2⟩ := cq_needSource h1 ha
  have hP4 := h1.2.2.2.1.2.2.2.1
  refine ⟨fun k => ?_, fun k => ?_, fun k => ?_⟩
  · obtain ⟨τ, w, q, G, V, b, e, hc, hf, hR, hF, hS, hH, hN⟩ := CI_rem h hQ (by omega)
    obtain ⟨s, rfl⟩ := nat_of k.1.1
    rw [Int.toNat_natCast]
    have hp := fa_wr (σ := τ) (V := V) (b := b) (u := X + w) (x := (s : Int)) (v := zi r) 1 s hN.1.1 (by omega) rfl (by show s < 4; omega)
    rw [fput_self hN.1] at hp
    refine ⟨_, ?_, CI_now hR hF hS hH (RC_lag (s := s) hN.2.1 (by omega)), zfr_trans hf (zfr_slot (by omega))⟩
    unfold fX9_setLag
    rw [cx_c hc, (n1 k.1).1, Option.bind_some, if_neg (by rw [zi_lt hr.1 hr.2 (by omega) (by omega)]; omega), if_pos (zi_yle (by omega) (by omega) (by omega)), cx_past hc, Option.bind_some, cx_now hc, Option.bind_some, cx_6 hc, e, Option.bind_some, cx_now hR.1, Option.bind_some, fi_9 hN.1, Option.bind_some, CN_a 1 s hN (by omega) rfl (by show s < 4; omega), Option.bind_some, Option.bind_some, fi_9 hN.1, Option.bind_some, hp, Option.bind_some, hN.2.1.2.1.2.1 s (by omega)]
  · unfold tX9_setLag
    rw [n2 k]
  · unfold tX9_setLag
    rw [(n1 k.1).2]
    dsimp only
    rw [cx_c h1.1, (n1 k.1).1, Option.bind_some]
    by_cases k1 : r < 0
    · rw [if_pos (by rw [zi_lt hr.1 hr.2 (by omega) (by omega)]; exact k1)]
    · rw [if_neg (by rw [zi_lt hr.1 hr.2 (by omega) (by omega)]; exact k1), if_neg (zi_nle (by omega) (by have := hr.2; omega) (by omega))]
theorem ca_every {r : Int} {d : Bool} (h : CI σ X P nm M H S tx er ea ou) (hQ : QI z P M H S) (hz : z < 800000000) (hr : zin r) : (0 ≤ r ∧ r ≤ 99 → ∃ τ, fX9_setEvery σ X (zi r) (zb d) = some (τ, zi (M.1 3)) ∧ CI τ X P nm (qS (qS M 3 r) 4 (if d then 1 else 0)) ((M :: H).take 6) S tx er ea ou ∧ zfr X (X + 307) σ τ) ∧ (¬ (0 ≤ r ∧ r ≤ 99) → tX9_setEvery σ X (zi r) (zb d) = some 2) := by
  refine ⟨fun k => ?_, fun k => ?_⟩
  · obtain ⟨τ, w, q, G, V, b, e, hc, hf, hR, hF, hS, hH, hN⟩ := CI_rem h hQ (by omega)
    have hd : zb d = zi (if d then 1 else 0) := by cases d <;> rfl
    have hp := fp_i (σ := τ) (V := V) (b := b) (u := X + w) (j := 2) (v := zi r) hN.1.1
    rw [fput_self hN.1] at hp
    have hC1 := RC_num (j := 2) (k := 3) (v := r) hN.2.1 (Or.inr (Or.inl ⟨rfl, rfl⟩))
    refine ⟨_, ?_, CI_now hR hF hS hH (RC_num (j := 3) (k := 4) (v := if d then 1 else 0) hC1 (Or.inr (Or.inr ⟨rfl, rfl⟩))), zfr_trans hf (zfr_slot (by omega))⟩
    unfold fX9_setEvery
    rw [if_neg (by rw [zi_lt hr.1 hr.2 (by omega) (by omega)]; omega), if_pos (zi_yle (by omega) (by omega) (by omega)), cx_past hc, Option.bind_some, cx_now hc, Option.bind_some, cx_6 hc, e, Option.bind_some, cx_now hR.1, Option.bind_some, CN_i hN (by omega), Option.bind_some, Option.bind_some, hp, Option.bind_some, cx_now (CR_put hR (by omega)).1, Option.bind_some, fp_z hN.1.1 (by cases d; exact Or.inl rfl; exact Or.inr rfl), Option.bind_some, hd]
    rfl
  · unfold tX9_setEvery
    by_cases k1 : r < 0
    · rw [if_pos (by rw [zi_lt hr.1 hr.2 (by omega) (by omega)]; exact k1)]
    · rw [if_neg (by rw [zi_lt hr.1 hr.2 (by omega) (by omega)]; exact k1), if_neg (zi_nle (by omega) (by have := hr.2; omega) (by omega))]
theorem ca_undo (h : CI σ X P nm M (N :: H) S tx er ea ou) (hQ : QI z P M (N :: H) S) (hz : z < 800000000) : ∃ τ, fX9_undo σ X = some (τ, zi H.length) ∧ CI τ X P nm N H S tx er ea ou ∧ zfr X (X + 307) σ τ := by
  obtain ⟨w, q, G, V, b, h1, h2, h3, h4, h5, hN⟩ := CI_open h hQ (by omega)
  have hQN := hQ.2.1 N List.mem_cons_self
  obtain ⟨τ, e, k1, k2⟩ := c_give h1 h2 h4 h5 hQN.1 (KB_T hQN.2 (by omega))
  have hsz := h1.2.2.2.2.2.2.1
  have hl : (N :: H).length = H.length + 1 := List.length_cons
  refine ⟨τ, ?_, k1, k2⟩
  obtain ⟨w2, q2, G2, g1, -⟩ := k1
  unfold fX9_undo
  rw [cx_past h1.1, Option.bind_some, cx_past_i h1.1, Option.bind_some, hsz.1, if_neg (by rw [zi_eq (by omega) (by omega) (by omega) (by omega)]; omega), Option.bind_some, cx_now h1.1, Option.bind_some, cx_6 h1.1, e, Option.bind_some, cx_past g1.1, Option.bind_some, cx_past_i g1.1, Option.bind_some, g1.2.2.2.2.2.2.1.1]
theorem ca_undo0 (h : CI σ X P nm M [] S tx er ea ou) (hQ : QI z P M [] S) (hz : z < 800000000) : tX9_undo σ X = some 3 := by
  obtain ⟨w, q, G, V, b, h1, h2, h3, h4, h5, hN⟩ := CI_open h hQ (by omega)
  unfold tX9_undo
  rw [cx_past h1.1, Option.bind_some, cx_past_i h1.1, Option.bind_some, h1.2.2.2.2.2.2.1.1, if_pos (show zi ((([] : List qM).length : Nat) : Int) = zi 0 from rfl)]
end CB
