/-! The class's receiver looks for the sender in turn. -/
section KT
variable {σ : zS} {f b u : Nat} {V : Nat → Nat → Int32} {M : qM} {P : qP}
theorem k_result {r n : Nat} (h : KS σ f u P) (hn : n < 800) (hr : n % 200 < P.2.2.1 (n / 200)) : fX1_channelForResult (fput σ f V b u) f (zi r) (zi n) = some (fput σ f V b u, zi ((4 * (4 + qsk P (qkey P n)) + r : Nat) : Int)) := by
  have hP := h.2.2.2
  unfold fX1_channelForResult
  rw [fr_17 h.1, Option.bind_some, Option.bind_some, su_c (KS_su h), su_key (KS_su h) hn hr, Option.bind_some]
  dsimp only
  rw [su_c (KS_su h), c_sink (KS_su h) (qkey_lt hn) hP.2.2.1 hP.2.2.2.1, Option.bind_some]
  dsimp only
  rw [zi_add, show (4 : Int) + ((qsk P (qkey P n) : Nat) : Int) = ((4 + qsk P (qkey P n) : Nat) : Int) from by omega, c_channel, Option.bind_some]
theorem k_can {r x : Nat} (h : KS σ f u P) (hI : qI P M) (hC : RC V b M) (hr : r < 6) (hx4 : x < 4) : fX1_canBeTaken (fput σ f V b u) f (zi r) (zi x) = some (fput σ f V b u, zb (qcan P r x M)) := by
  have hS := h.1
  have hP := h.2.2.2
  have hbl : gflags (fun x => M.1 (43 + (4 * r + x))) := fun y hy => hI.1.2.1.2.2.2.2.2.2.2.2.2.2.2.2.2 (4 * r + y) (by omega)
  have hB := qI_B hI (c := 4 * r + x) (by omega)
  have a8 := hC.2.1.2.2.2.2.2.2.2.2
  have hlen := LD_len (o := 6) ⟨a8, LD_I hI⟩ (l := 4 * r + x) (by omega)
  have hroom := hI.1.2.1.2.1
  unfold fX1_canBeTaken qcan
  rw [c_channel, Option.bind_some]
  dsimp only
  rw [fr_13 hS, Option.bind_some, fa_rd 5 r hS (by omega) rfl (by show r < 6; exact hr), Option.bind_some, hC.2.1.2.2.2.2.2.1 r hr, m_bit hbl hx4]
  by_cases e : M.1 (43 + (4 * r + x)) = 1
  · rw [if_pos (by rw [e]), if_pos e, zrZ_0]; rfl
  · have e0 : M.1 (43 + (4 * r + x)) = 0 := by
      rcases hbl x hx4 with q | q
      · exact q
      · exact absurd q e
    rw [if_neg (by rw [e0]; decide), if_neg e, fr_19 hS, Option.bind_some, fa_rd 30 (4 * r + x) hS (by omega) rfl (by show 4 * r + x < 24; omega), Option.bind_some, hC.2.1.2.2.2.2.2.2.2.1 (4 * r + x) (by omega)]
    by_cases e2 : M.2.2 (4 * r + x) = 0
    · rw [if_pos (by rw [e2]), if_pos e2, zrZ_1]; rfl
    · rw [if_neg (by rw [zi_eq (by omega) (by omega) (by omega) (by omega)]; exact e2), if_neg e2, fr_14 hS, Option.bind_some, fc_3 hS (Or.inl rfl), c_sizeOf hS (Or.inl rfl) a8 (by omega), Option.bind_some]
      dsimp only
      cases e3 : M.2.1 (4 * r + x) with
      | nil =>
        rw [if_pos (by rfl), zrZ_0]; rfl
      | cons n t =>
        rw [e3] at hlen
        rw [List.length_cons] at hlen ⊢
        dsimp only
        rw [if_neg (by rw [zi_eq (by omega) (by omega) (by omega) (by omega)]; omega)]
        by_cases e4 : 4 ≤ r
        · rw [if_pos (by rw [zi_le (by omega) (by omega) (by omega) (by omega)]; omega), decide_eq_true e4]
          unfold jX1_canBeTaken_78
          rw [zrZ_1]; rfl
        · obtain ⟨n8, nr, -⟩ := qI_rec hI (c := 4 * r + x) (n := n) (by omega) (by rw [e3]; exact List.mem_cons_self)
          have hsk := qsk_lt (P := P) (k := qkey P n) hP.2.2.1
          have h2P := hP.2.2.2.1
          have hlen2 := LD_len (o := 6) ⟨a8, LD_I hI⟩ (l := 4 * (4 + qsk P (qkey P n)) + r) (by omega)
          rw [if_neg (by rw [zi_le (by omega) (by omega) (by omega) (by omega)]; omega), fr_14 hS, Option.bind_some, Option.bind_some, fc_3 hS (Or.inl rfl), c_firstOf hS (Or.inl rfl) a8 (by omega), Option.bind_some, e3, show lhd (n :: t) = (n : Int) from rfl]
          dsimp only
          rw [fc_1 hS, k_result h n8 nr, Option.bind_some]
          dsimp only
          rw [fc_3 hS (Or.inl rfl), c_sizeOf hS (Or.inl rfl) a8 (by omega), Option.bind_some]
          dsimp only
          rw [fg_i hS, Option.bind_some, hC.2.1.1 1 (by omega), show gF M 1 = M.1 2 from rfl, decide_eq_false e4, Bool.false_or, show 16 + 4 * qsk P (qkey P n) + r = 4 * (4 + qsk P (qkey P n)) + r from by omega]
          by_cases e5 : M.1 2 ≤ ((M.2.1 (4 * (4 + qsk P (qkey P n)) + r)).length : Int)
          · rw [if_pos (by rw [zi_le (by omega) (by omega) (by omega) (by omega)]; exact e5), decide_eq_false (by omega), zrZ_0]; rfl
          · rw [if_neg (by rw [zi_le (by omega) (by omega) (by omega) (by omega)]; exact e5), decide_eq_true (by omega)]
            unfold jX1_canBeTaken_78
            rw [zrZ_1]; rfl
def zopt (o : Option Nat) : Int := match o with | none => -1 | some x => (x : Int)
theorem k_turn {r : Nat} (h : KS σ f u P) (hI : qI P M) (hC : RC V b M) (hr : r < 6) (hl : qlr P M r) : fX1_senderInTurn (fput σ f V b u) f (zi r) = some (fput σ f V b u, zi (zopt (qturn P r M))) := by
  have hS := h.1
  have hN := hI.1.2.1
  have hns := qns_le hI.1.1 hN r
  have hm := hN.1
  obtain ⟨t, ht⟩ : ∃ t : Nat, M.1 (37 + r) = t := ⟨(M.1 (37 + r)).toNat, by have := (hN.2.2.2.2.2.2.2.2.2.2.2.1 r hr).1; omega⟩
  have htq : t ≤ qns P M r := by have := (hN.2.2.2.2.2.2.2.2.2.2.2.1 r hr).2 hl; omega
  have hturn : qturn P r M = ((List.range (qns P M r)).map (fun k => (t + k) % qns P M r)).find? (fun x => qcan P r x M) := by
    unfold qturn
    rw [ht, Int.toNat_natCast]
  have st : ∀ k v, k < qns P M r → v ≤ qns P M r → v % qns P M r = (t + k) % qns P M r → sX1_senderInTurn_16 f (zi r) (zi (qns P M r)) (fput σ f V b u, zi (v : Int), zi (k : Int)) = if qcan P r ((t + k) % qns P M r) M = true then some (.inr (.inl (fput σ f V b u, zi (((t + k) % qns P M r : Nat) : Int)))) else some (.inl (fput σ f V b u, zi ((((t + k) % qns P M r) + 1 : Nat) : Int), zi ((k + 1 : Nat) : Int))) := by
    intro k v hk hv hvm
    have hmd : (t + k) % qns P M r < qns P M r := Nat.mod_lt _ (by omega)
    have fin : jX1_senderInTurn_29_L16 (fput σ f V b u) f (zi r) (zi (qns P M r)) (zi (((t + k) % qns P M r : Nat) : Int)) (zi (k : Int)) = if qcan P r ((t + k) % qns P M r) M = true then some (.inr (.inl (fput σ f V b u, zi (((t + k) % qns P M r : Nat) : Int)))) else some (.inl (fput σ f V b u, zi ((((t + k) % qns P M r) + 1 : Nat) : Int), zi ((k + 1 : Nat) : Int))) := by
      unfold jX1_senderInTurn_29_L16
      rw [fc_1 hS, k_can h hI hC hr (by omega), Option.bind_some]
      dsimp only
      rw [zb_if, zi_add, zi_add]
      rfl
    unfold sX1_senderInTurn_16 sX1_senderInTurn_16b
    dsimp only
    rw [if_neg (zi_nle (by omega) (by omega) (by omega))]
    by_cases e : v < qns P M r
    · rw [if_pos (by rw [zi_lt (by omega) (by omega) (by omega) (by omega)]; omega)]
      rw [Nat.mod_eq_of_lt e] at hvm
      rw [hvm]
      exact fin
    · rw [if_neg (by rw [zi_lt (by omega) (by omega) (by omega) (by omega)]; omega)]
      rw [show v = qns P M r from by omega, Nat.mod_self] at hvm
      rw [← hvm] at fin ⊢
      exact fin
  have hfirst : ∀ o2, zloop (sX1_senderInTurn_16 f (zi r) (zi (qns P M r))) zfuel (fput σ f V b u, zi (t : Int), zi 0) = some o2 → fX1_senderInTurn (fput σ f V b u) f (zi r) = (match o2 with | (.inl z9) => some (z9.1, z9.2) | (.inr z10) => some (z10, (zi (-1)))) := by
    intro o2 ho
    unfold fX1_senderInTurn
    rw [fc_1 hS, k_senders h hC hm hr, Option.bind_some]
    dsimp only
    rw [fr_18 hS, Option.bind_some, fa_rd 29 r hS (by omega) rfl (by show r < 6; exact hr), Option.bind_some, hC.2.1.2.2.2.2.2.2.1 r hr]
    dsimp only
    rw [ht, ho, Option.bind_some]
    rfl
  have next : ∀ k, k < qns P M r → (((t + k) % qns P M r) + 1) % qns P M r = (t + (k + 1)) % qns P M r := fun k _ => by
    rw [Nat.mod_add_mod, Nat.add_assoc]
  by_cases hex : ∃ j, j < qns P M r ∧ qcan P r ((t + j) % qns P M r) M = true
  · have hleast : ∃ j, (j < qns P M r ∧ qcan P r ((t + j) % qns P M r) M = true) ∧ ∀ k, k < j → ¬ (k < qns P M r ∧ qcan P r ((t + k) % qns P M r) M = true) := by
      obtain ⟨j, hj⟩ := hex
      induction j using Nat.strongRecOn with
      | ind j ih =>
        by_cases q : ∃ k, k < j ∧ k < qns P M r ∧ qcan P r ((t + k) % qns P M r) M = true
        · obtain ⟨k, hk1, hk2⟩ := q
          exact ih k hk1 hk2
        · exact ⟨j, hj, fun k hk hq => q ⟨k, hk, hq⟩⟩
    obtain ⟨j, ⟨hj, hcj⟩, hmin⟩ := hleast
    have hmin2 : ∀ k, k < j → qcan P r ((t + k) % qns P M r) M = false := fun k hk => by
      cases e : qcan P r ((t + k) % qns P M r) M
      · rfl
      · exact absurd ⟨by omega, e⟩ (hmin k hk)
    have hq : qturn P r M = some ((t + j) % qns P M r) := by
      rw [hturn]
      exact q_find hmin2 hj hcj
    obtain ⟨o2, e, rfl⟩ := zloop_run (step := sX1_senderInTurn_16 f (zi r) (zi (qns P M r))) j (fun k z => ∃ v : Nat, z = (fput σ f V b u, zi (v : Int), zi (k : Int)) ∧ v ≤ qns P M r ∧ v % qns P M r = (t + k) % qns P M r) (fun o => o = .inl (fput σ f V b u, zi (((t + j) % qns P M r : Nat) : Int))) (by
      rintro k z hk ⟨v, rfl, h1, h2⟩
      have hmd : (t + k) % qns P M r < qns P M r := Nat.mod_lt _ (by omega)
      exact Or.inl ⟨_, by rw [st k v (by omega) h1 h2, if_neg (by rw [hmin2 k hk]; decide)], _, rfl, by omega, next k (by omega)⟩) (by
      rintro z ⟨v, rfl, h1, h2⟩
      exact ⟨_, by rw [st j v hj h1 h2, if_pos hcj], rfl⟩) (zfuel_lt (by omega)) (s := (fput σ f V b u, zi (t : Int), zi 0)) ⟨t, rfl, htq, rfl⟩
    rw [hfirst _ e, hq]
    rfl
  · have hall : ∀ k, k < qns P M r → qcan P r ((t + k) % qns P M r) M = false := fun k hk => by
      cases e : qcan P r ((t + k) % qns P M r) M
      · rfl
      · exact absurd ⟨k, hk, e⟩ hex
    have hq : qturn P r M = none := by
      rw [hturn]
      exact q_find0 hall
    obtain ⟨o2, e, rfl⟩ := zloop_run (step := sX1_senderInTurn_16 f (zi r) (zi (qns P M r))) (qns P M r) (fun k z => ∃ v : Nat, z = (fput σ f V b u, zi (v : Int), zi (k : Int)) ∧ v ≤ qns P M r ∧ v % qns P M r = (t + k) % qns P M r) (fun o => o = .inr (fput σ f V b u)) (by
      rintro k z hk ⟨v, rfl, h1, h2⟩
      have hmd : (t + k) % qns P M r < qns P M r := Nat.mod_lt _ (by omega)
      exact Or.inl ⟨_, by rw [st k v hk h1 h2, if_neg (by rw [hall k hk]; decide)], _, rfl, by omega, next k hk⟩) (by
      rintro z ⟨v, rfl, h1, h2⟩
      refine ⟨_, ?_, rfl⟩
      unfold sX1_senderInTurn_16 sX1_senderInTurn_16b
      dsimp only
      rw [if_pos (zi_yle (by omega) (by omega) (by omega))]) (zfuel_lt (by omega)) (s := (fput σ f V b u, zi (t : Int), zi 0)) ⟨t, rfl, htq, rfl⟩
    rw [hfirst _ e, hq]
    rfl
end KT
