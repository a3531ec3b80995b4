/-! The reference finds a name. -/
section QJ
variable {σ τ υ : zS} {m p k w K : Nat} {tx ou : List Int32} {D : pD} {P : qP} {M : qM} {H : List qM} {S : Option qM} {nm : Nat → List Int32} {er ea : Int} {e : Nat × Nat}
theorem pto_all {f : Nat → Bool} : ∀ {n p : Nat}, (∀ i, p ≤ i → i < p + n → f i = true) → pto f n p = p + n
  | 0, p, _ => rfl
  | n + 1, p, h => by
    unfold pto
    rw [if_pos (h p (by omega) (by omega)), pto_all (fun i h1 h2 => h i (by omega) (by omega))]
    omega
theorem ptx_all : ptx tx 0 tx.length = tx := by
  unfold ptx
  rw [List.drop_zero, Nat.sub_zero, List.take_length]
theorem ple_tok (h1 : 1 ≤ tx.length) (hp : ple tx) : pF tx 0 = 0 ∧ pK tx 0 = 1 ∧ pT tx 0 = tx.length := by
  have hk : ∀ i, i < tx.length → pk tx i = 1 := fun i hi => by
    have := hp (tx.getD i 0) (by
      rw [List.getD_eq_getElem?_getD, List.getElem?_eq_getElem hi]
      exact List.getElem_mem hi)
    unfold pk pck pc
    rw [if_pos hi, if_pos this]
  have hF : pF tx 0 = 0 := by
    unfold pF
    refine pto_stop (decide_eq_false (fun q => ?_))
    have := hp (tx.getD 0 0) (by
      rw [List.getD_eq_getElem?_getD, List.getElem?_eq_getElem h1]
      exact List.getElem_mem h1)
    have q2 := q.2
    unfold pc at q2
    omega
  have hK : pK tx 0 = 1 := by
    unfold pK
    rw [hF]
    exact hk 0 h1
  refine ⟨hF, hK, ?_⟩
  rw [pT_1 hK (by omega), hF]
  unfold pru
  rw [pto_all (fun i _ hi => decide_eq_true (hk i (by omega)))]
  omega
theorem rc_find (h : RI σ m P nm M H S tx er ea ou) (hT : TB tx) : ∃ τ, fX10_find σ m = some (τ, zi (pnm P.1 nm tx)) ∧ RI τ m P nm M H S [] er ea ou ∧ zfr m (m + 15) σ τ ∧ τ.2.1 m 0 = zi 0 := by
  have hs := h.1.1
  obtain ⟨t1, t2, t3⟩ := RI_tx h
  obtain ⟨s1, h1⟩ : ∃ s1, s1 = zuI σ m 0 (zi 0) := ⟨_, rfl⟩
  have k1 : rsh s1 m := by rw [h1]; exact rsh_uI hs
  have q15 : s1.2.1 m 15 = zi tx.length := by rw [h1, zuI_rd, if_neg (by omega), t1]
  obtain ⟨sb, hb⟩ : ∃ sb, sb = zuI (zuI (zuI s1 m 16 (zi tx.length)) m 15 (zi 0)) m 17 (zi 0) := ⟨_, rfl⟩
  have kb : rsh sb m := by rw [hb]; exact rsh_uI (rsh_uI (rsh_uI k1))
  have ib : ∀ a, a ≠ m → sb.2.1 a = σ.2.1 a := fun a ha => by
    rw [hb, h1]
    exact (show _ = _ from zu_off _ _ _ ha).trans ((show _ = _ from zu_off _ _ _ ha).trans ((show _ = _ from zu_off _ _ _ ha).trans (zu_off _ _ _ ha)))
  have jb : ∀ j, j ≠ 0 → j ≠ 15 → j ≠ 16 → j ≠ 17 → sb.2.1 m j = σ.2.1 m j := fun j z a b c => by
    rw [hb, zuI_rd, if_neg c, zuI_rd, if_neg a, zuI_rd, if_neg b, h1, zuI_rd, if_neg z]
  have hS : RSh sb m tx := by
    refine ⟨kb, ⟨?_, t2, fun i hi => ?_⟩, hT⟩
    · rw [hb, zuI_rd, if_neg (by omega), zuI_rd, if_neg (by omega), zuI_rd, if_pos rfl]
    · rw [ib _ (by omega)]
      exact t3 i hi
  obtain ⟨s5, e5, f5, g5⟩ := rb_next (p0 := 0) hS (by rw [hb, zuI_rd, if_pos rfl]; rfl) (by omega)
  have h5 := RSh_T hS f5
  have est : fX10_startsReading s1 m = some s5 := by
    unfold fX10_startsReading
    rw [rg_i k1, Option.bind_some, q15, rp_i k1, Option.bind_some, rp_i (rsh_uI k1), Option.bind_some, rp_i (rsh_uI (rsh_uI k1)), Option.bind_some, ← hb, rck9 hS, e5]
    rfl
  have fin : RI s5 m P nm M H S [] er ea ou ∧ zfr m (m + 15) σ s5 ∧ s5.2.1 m 0 = zi 0 := by
    have b1 : sb.1 = σ.1 := by rw [hb, h1]; rfl
    have b2 : sb.2.2 = σ.2.2 := by rw [hb, h1]; rfl
    refine ⟨RI_io h (f5.1.trans b1) (by rw [f5.2.1, b2]) (by rw [f5.2.1, b2]) (fun j hj => by rw [f5.2.2.2 j (by omega), jb j (by omega) (by omega) (by omega) (by omega)]) (fun o ho => by rw [f5.2.2.1 _ (by omega), ib _ (by omega)]) ⟨?_, by show 0 ≤ 300; omega, fun i hi => absurd (show i < 0 from hi) (by omega)⟩ ?_ ?_, ⟨f5.1.trans b1, fun a ha => ⟨by rw [f5.2.2.1 a (by omega), ib a (by omega)], by rw [f5.2.1, b2], by rw [f5.2.1, b2]⟩⟩, ?_⟩
    · rw [f5.2.2.2 15 (by omega), hb, zuI_rd, if_neg (by omega), zuI_rd, if_pos rfl]
      rfl
    · rw [f5.2.2.2 22 (by omega), f5.2.2.2 23 (by omega), jb 22 (by omega) (by omega) (by omega) (by omega), jb 23 (by omega) (by omega) (by omega) (by omega)]
      exact RI_er h
    · unfold ROu
      rw [f5.2.2.2 31 (by omega), jb 31 (by omega) (by omega) (by omega) (by omega), f5.2.2.1 _ (by omega), ib _ (by omega)]
      exact RI_ou h
    · rw [f5.2.2.2 0 (by omega), hb, zuI_rd, if_neg (by omega), zuI_rd, if_neg (by omega), zuI_rd, if_neg (by omega), h1, zuI_rd, if_pos rfl]
  obtain ⟨b1, b2, b3, -⟩ := pT_in (tx := tx) (p := 0) (by omega)
  have htl := rtk_le (tx := tx) (p := 0)
  have hRI := fin.1
  have hP := h.1.2.2.2.1.1
  have no : ¬ (pF tx 0 = 0 ∧ pK tx 0 = 1 ∧ pT tx 0 = tx.length ∧ tx.length ≤ 8) → pnm P.1 nm tx = -1 := fun hne => by
    rw [pnm_neg]
    rintro ⟨s, hs4, rfl⟩
    obtain ⟨-, l1, l2, l3⟩ := hRI.2.1 s hs4
    obtain ⟨w1, w2, w3⟩ := ple_tok l1 l3
    exact hne ⟨w1, w2, w3, l2⟩
  refine ⟨s5, ?_, fin⟩
  unfold fX10_find
  rw [rp_i hs, Option.bind_some, ← h1, rg_i k1, Option.bind_some, q15, show ∀ o : Option zS, zck 9 s1 m o = o from fun o => if_pos k1.1, est, Option.bind_some, rg_i h5.1, Option.bind_some, g5.2.2.1]
  by_cases c1 : pK tx 0 = 1
  · rw [if_pos (show zi (rtk tx 0) = zi 1 by rw [rtk_1.2 c1]; rfl), rg_i h5.1, Option.bind_some, g5.2.1]
    by_cases c2 : pF tx 0 = 0
    · rw [if_pos (show zi (pF tx 0) = zi 0 by rw [c2]; rfl), rg_i h5.1, Option.bind_some, g5.1]
      by_cases c3 : pT tx 0 = tx.length
      · rw [if_pos (show zi (pT tx 0) = zi tx.length by rw [c3])]
        by_cases c4 : tx.length ≤ 8
        · have en := rd_name h5 g5.1 g5.2.1 b1 b2
          rw [c2, c3, ptx_all] at en
          have hl := plet_tx c1 (by omega)
          rw [c2, c3, ptx_all] at hl
          have hn4 : P.1 ≤ 4 := by
            have := h.1.2.2.2
            exact this.1.1.2.1
          have epl := rd_place (σ := s5) (a := m + 3) (n := P.1) (nm := nm) (l := tx) (rsk_3 h5.1) hn4 (fun s hs4 => by
            obtain ⟨l0, l1, l2, l3⟩ := hRI.2.1 s hs4
            exact ⟨l0, l2, l3⟩) c4 hl.2
          rw [if_pos ((zi_le (by omega) (by omega) (by omega) (by omega)).2 (show (tx.length : Int) ≤ 8 by omega)), rck9 h5, en, Option.bind_some]
          dsimp only
          rw [rsh_5 h5.1, Option.bind_some, rg_i h5.1, Option.bind_some, hRI.1.2.1.1, epl]
          rfl
        · rw [if_neg (show ¬ zi (tx.length : Int) ≤ zi 8 by rw [zi_le (by omega) (by omega) (by omega) (by omega)]; omega), no (fun q => c4 q.2.2.2)]
      · rw [if_neg (show ¬ zi (pT tx 0) = zi tx.length by rw [zi_eq (by omega) (by omega) (by omega) (by omega)]; omega), no (fun q => c3 q.2.2.1)]
    · rw [if_neg (show ¬ zi (pF tx 0) = zi 0 by rw [zi_eq (by omega) (by omega) (by omega) (by omega)]; omega), no (fun q => c2 q.1)]
  · rw [if_neg (show ¬ zi (rtk tx 0) = zi 1 by rw [zi_eq (by omega) (by omega) (by omega) (by omega)]; have := rtk_1 (tx := tx) (p := 0); omega), no (fun q => c1 q.2.1)]
end QJ
