/-! The reference's history. -/
section RHs
variable {σ τ : zS} {m : Nat} {A g : Nat → Int32} {P : qP} {M N M0 : qM} {H : List qM} {S : Option qM} {nm : Nat → List Int32} {tx ou : List Int32} {er ea z : Int}
theorem r_ref {j a : Nat} (h : rsh σ m) (hr : σ.2.2.1 m j = some a) : zgR 9 j σ m = some a := by
  have := rd_ref (A := σ.2.1 (m + 4)) h hr
  rwa [rput_self] at this
theorem r_int {j : Nat} (h : rsh σ m) : zgI 9 j σ m = some (σ.2.1 m j) := if_pos h.1
theorem r_put {j : Nat} {v : Int32} (h : rsh σ m) : zpI 9 j σ m v = some (zuI σ m j v) := if_pos h.1
theorem r_aside (h : rsh σ m) : zgR 9 8 σ m = some (m + 6) := r_ref h h.2.1.2.2.2.2.2.1
theorem r_tried (h : rsh σ m) : zgR 9 9 σ m = some (m + 7) := r_ref h h.2.1.2.2.2.2.2.2.1
theorem r_saved (h : rsh σ m) : zgR 9 10 σ m = some (m + 8) := r_ref h h.2.1.2.2.2.2.2.2.2.1
theorem r_hist (h : rsh σ m) : zgR 9 11 σ m = some (m + 9) := r_ref h h.2.1.2.2.2.2.2.2.2.2.1
theorem r_now (h : rsh σ m) : zgR 9 6 σ m = some (m + 4) := r_ref h h.2.1.2.2.2.1
/-- all but history -/
theorem RI_hi (h : RI σ m P nm M H S tx er ea ou) {H2 : List qM} (e1 : τ.1 = σ.1) (e2 : τ.2.2 = σ.2.2) (e0 : ∀ j, (j = 1 ∨ j = 2 ∨ j = 13 ∨ j = 15 ∨ j = 22 ∨ j = 23 ∨ j = 31) → τ.2.1 m j = σ.2.1 m j) (ea2 : ∀ o, (o = 1 ∨ o = 2 ∨ o = 4 ∨ o = 8 ∨ o = 10 ∨ o = 14) → τ.2.1 (m + o) = σ.2.1 (m + o)) (hH : RHi τ m P H2) : RI τ m P nm M H2 S tx er ea ou := by
  obtain ⟨⟨a1, a2, a3, a4⟩, b, -, ⟨d1, d2⟩, ⟨f1, f2, f3⟩, ⟨g1, g2⟩, ⟨i1, i2, i3⟩⟩ := h
  refine ⟨⟨rsh_fr a1 e1 (by rw [e2]), ?_, by rw [ea2 4 (by omega)]; exact a3, a4⟩, ?_, hH, ⟨by rw [e0 13 (by omega)]; exact d1, fun N hN => by rw [ea2 8 (by omega)]; exact d2 N hN⟩, ⟨by rw [e0 15 (by omega)]; exact f1, f2, fun i hi => by rw [ea2 10 (by omega)]; exact f3 i hi⟩, ⟨by rw [e0 22 (by omega)]; exact g1, by rw [e0 23 (by omega)]; exact g2⟩, ⟨by rw [e0 31 (by omega)]; exact i1, i2, fun i hi => by rw [ea2 14 (by omega)]; exact i3 i hi⟩⟩
  · unfold rset
    rw [e0 1 (by omega), e0 2 (by omega), ea2 1 (by omega), ea2 2 (by omega)]
    exact a2
  · unfold RNm
    rw [e2]
    exact b
/-- what is now is laid aside -/
theorem r_starts (h : rsh σ m) : fX10_starts σ m = some (rp σ (m + 6) (fun k => if k < 33894 then σ.2.1 (m + 4) k else σ.2.1 (m + 6) k)) := by
  unfold fX10_starts
  rw [r_now h, Option.bind_some, r_aside h, Option.bind_some, r_copies (by omega) h.2.2.2.2.2.1 h.2.2.2.2.2.2.2.1, Option.bind_some]
theorem r_done48 {n : Nat} {v : Int32} (h : rsh τ m) (hn : τ.2.1 m 12 = zi n) (h6 : n < 6) : jX10_done_48 τ m v = some (zuI (rp τ (m + 9) (fun j => if 33894 * n ≤ j ∧ j < 33894 * n + 33894 then τ.2.1 (m + 6) (j - 33894 * n) else τ.2.1 (m + 9) j)) m 12 (zi ((n : Int) + 1)), v) := by
  unfold jX10_done_48
  obtain ⟨y, hy, hq⟩ := zloop_run (step := sX10_done_50 m v) (s := (τ, zi 0)) (fuel := zfuel) 33894 (fun i s => s = (rp τ (m + 9) (fun j => if 33894 * n ≤ j ∧ j < 33894 * n + i then τ.2.1 (m + 6) (j - 33894 * n) else τ.2.1 (m + 9) j), zi (i : Int))) (fun y => y = rp τ (m + 9) (fun j => if 33894 * n ≤ j ∧ j < 33894 * n + 33894 then τ.2.1 (m + 6) (j - 33894 * n) else τ.2.1 (m + 9) j))
    (fun i s hi hs => by
      subst hs
      refine Or.inl ⟨(rp τ (m + 9) (fun j => if 33894 * n ≤ j ∧ j < 33894 * n + (i + 1) then τ.2.1 (m + 6) (j - 33894 * n) else τ.2.1 (m + 9) j), zi ((i + 1 : Nat) : Int)), ?_, rfl⟩
      have h2 : rsh (rp τ (m + 9) (fun j => if 33894 * n ≤ j ∧ j < 33894 * n + i then τ.2.1 (m + 6) (j - 33894 * n) else τ.2.1 (m + 9) j)) m := h
      unfold sX10_done_50 sX10_done_50b
      dsimp only
      rw [if_neg (zi_nle (by omega) (by omega) (by omega)), r_hist h2, Option.bind_some, r_int h2, Option.bind_some, rp_ne (by omega), hn, r_aside h2, Option.bind_some, zaI_of i (show (rp τ _ _).1 (m + 6) = (1, 33894) from h.2.2.2.2.2.2.2.1) rfl hi (by omega), Option.bind_some, rp_ne (by omega), zi_mul, zi_add, zsI_of (33894 * n + i) (show (rp τ _ _).1 (m + 9) = (1, 203364) from h.2.2.2.2.2.2.2.2.2.2.1) (by omega) (by omega) (by omega), Option.bind_some, rp_upd, zi_add]
      refine congrArg (fun q => some (Sum.inl (rp τ (m + 9) q, zi ((i : Int) + 1)))) ?_
      funext j
      unfold qu
      dsimp only
      by_cases e : j = 33894 * n + i
      · rw [if_pos e, if_pos (by omega), e, show 33894 * n + i - 33894 * n = i from by omega]
      · rw [if_neg e]
        by_cases e2 : 33894 * n ≤ j ∧ j < 33894 * n + i
        · rw [if_pos e2, if_pos (by omega)]
        · rw [if_neg e2, if_neg (by omega)])
    (fun s hs => by
      subst hs
      refine ⟨_, ?_, rfl⟩
      unfold sX10_done_50 sX10_done_50b
      dsimp only
      rw [if_pos (by decide)])
    (zfuel_lt (by omega)) (by
      refine Prod.ext ?_ rfl
      show τ = rp τ (m + 9) _
      rw [show (fun j => if 33894 * n ≤ j ∧ j < 33894 * n + 0 then τ.2.1 (m + 6) (j - 33894 * n) else τ.2.1 (m + 9) j) = τ.2.1 (m + 9) from by funext j; exact if_neg (by omega), rp_self])
  have h2 : ∀ g, rsh (rp τ (m + 9) g) m := fun g => h
  rw [hy, Option.bind_some, hq, r_int (h2 _), Option.bind_some, rp_ne (by omega), hn, zi_add, r_put (h2 _), Option.bind_some]
theorem r_shift {v : Int32} (h : rsh τ m) : zloop (sX10_done_11 m v) zfuel (τ, zi 0) = some (rp τ (m + 9) (fun j => if j < 169470 then τ.2.1 (m + 9) (j + 33894) else τ.2.1 (m + 9) j)) := by
  obtain ⟨y, hy, hq⟩ := zloop_run (step := sX10_done_11 m v) (s := (τ, zi 0)) (fuel := zfuel) 169470 (fun i s => s = (rp τ (m + 9) (fun j => if j < i then τ.2.1 (m + 9) (j + 33894) else τ.2.1 (m + 9) j), zi (i : Int))) (fun y => y = rp τ (m + 9) (fun j => if j < 169470 then τ.2.1 (m + 9) (j + 33894) else τ.2.1 (m + 9) j))
    (fun i s hi hs => by
      subst hs
      refine Or.inl ⟨(rp τ (m + 9) (fun j => if j < i + 1 then τ.2.1 (m + 9) (j + 33894) else τ.2.1 (m + 9) j), zi ((i + 1 : Nat) : Int)), ?_, rfl⟩
      have h2 : rsh (rp τ (m + 9) (fun j => if j < i then τ.2.1 (m + 9) (j + 33894) else τ.2.1 (m + 9) j)) m := h
      have hk : (rp τ (m + 9) (fun j => if j < i then τ.2.1 (m + 9) (j + 33894) else τ.2.1 (m + 9) j)).1 (m + 9) = (1, 203364) := h.2.2.2.2.2.2.2.2.2.2.1
      unfold sX10_done_11 sX10_done_11b
      dsimp only
      rw [if_neg (zi_nle (by omega) (by omega) (by omega)), r_hist h2, Option.bind_some, Option.bind_some, zi_add, zaI_of (i + 33894) hk (by omega) (by omega) (by omega), Option.bind_some, zsI_of i hk rfl (by omega) (by omega), Option.bind_some, rp_at, rp_upd, zi_add]
      refine congrArg (fun q => some (Sum.inl (rp τ (m + 9) q, zi ((i : Int) + 1)))) ?_
      funext j
      unfold qu
      dsimp only
      by_cases e : j = i
      · rw [if_pos e, if_neg (by omega), if_pos (by omega), e]
      · rw [if_neg e]
        by_cases e2 : j < i
        · rw [if_pos e2, if_pos (by omega)]
        · rw [if_neg e2, if_neg (by omega)])
    (fun s hs => by
      subst hs
      refine ⟨_, ?_, rfl⟩
      unfold sX10_done_11 sX10_done_11b
      dsimp only
      rw [if_pos (by decide)])
    (zfuel_lt (by omega)) (by
      refine Prod.ext ?_ rfl
      show τ = rp τ (m + 9) _
      rw [show (fun j => if j < 0 then τ.2.1 (m + 9) (j + 33894) else τ.2.1 (m + 9) j) = τ.2.1 (m + 9) from by funext j; exact if_neg (by omega), rp_self])
  rw [hy, hq]
/-- what lies aside becomes the latest of the history -/
theorem r_done {v : Int32} (h : RI σ m P nm M H S tx er ea ou) (ha : RM (σ.2.1 (m + 6)) P M0) : ∃ τ, fX10_done σ m v = some (τ, v) ∧ RI τ m P nm M ((M0 :: H).take 6) S tx er ea ou ∧ zfr m (m + 15) σ τ ∧ τ.2.1 m 0 = σ.2.1 m 0 := by
  have hs := h.1.1
  obtain ⟨c1, c2, c3⟩ := h.2.2.1
  have hlen : ((M0 :: H).take 6).length = if H.length + 1 < 6 then H.length + 1 else 6 := by
    rw [List.length_take, List.length_cons]
    split <;> omega
  -- a state whose history has n flows, each where it is to be
  have key : ∀ (υ : zS) (n : Nat), n < 6 → υ.1 = σ.1 → υ.2.2 = σ.2.2 → (∀ j, j ≠ 12 → υ.2.1 m j = σ.2.1 m j) → (∀ o, 1 ≤ o → o ≠ 9 → υ.2.1 (m + o) = σ.2.1 (m + o)) → υ.2.1 m 12 = zi n → zfr m (m + 15) σ υ → n + 1 = ((M0 :: H).take 6).length → (∀ k, k + 1 < ((M0 :: H).take 6).length → ∃ N, H[k]? = some N ∧ RM (fun j => υ.2.1 (m + 9) (33894 * (n - (k + 1)) + j)) P N) →
      ∃ τ, jX10_done_48 υ m v = some (τ, v) ∧ RI τ m P nm M ((M0 :: H).take 6) S tx er ea ou ∧ zfr m (m + 15) σ τ ∧ τ.2.1 m 0 = σ.2.1 m 0 := by
    intro υ n hn e1 e2 e0 eo e12 hf hln hk
    have hsυ : rsh υ m := rsh_fr hs e1 (by rw [e2])
    refine ⟨_, r_done48 hsυ e12 hn, ?_, ?_, ?_⟩
    · refine RI_hi h e1 e2 (fun j hj => ?_) (fun o ho => ?_) ⟨?_, ?_, fun k hk2 => ?_⟩
      · rw [zuI_rd, if_neg (by omega), rp_ne (by omega), e0 j (by omega)]
      · rw [show (zuI (rp υ (m + 9) _) m 12 _).2.1 (m + o) = (rp υ (m + 9) _).2.1 (m + o) from zu_off _ _ _ (by omega), rp_ne (by omega), eo o (by omega) (by omega)]
      · rw [zuI_rd, if_pos rfl, ← hln]; rfl
      · rw [hlen]; split <;> omega
      · have hb : (zuI (rp υ (m + 9) (fun j => if 33894 * n ≤ j ∧ j < 33894 * n + 33894 then υ.2.1 (m + 6) (j - 33894 * n) else υ.2.1 (m + 9) j)) m 12 (zi ((n : Int) + 1))).2.1 (m + 9) = (fun j => if 33894 * n ≤ j ∧ j < 33894 * n + 33894 then υ.2.1 (m + 6) (j - 33894 * n) else υ.2.1 (m + 9) j) := (zu_off _ _ _ (by omega)).trans rp_at
        rw [hb, ← hln]
        have hk6 : k < 6 := by omega
        rw [List.getElem?_take_of_lt hk6]
        cases k with
        | zero =>
          refine ⟨M0, rfl, RM_eq ha (fun j hj => ?_)⟩
          dsimp only
          rw [if_pos (by omega), eo 6 (by omega) (by omega), show 33894 * (n + 1 - 1 - 0) + j - 33894 * n = j from by omega]
        | succ k =>
          obtain ⟨N, q1, q2⟩ := hk k hk2
          refine ⟨N, by rw [List.getElem?_cons_succ]; exact q1, RM_eq q2 (fun j hj => ?_)⟩
          dsimp only
          rw [if_neg (by omega), show n + 1 - 1 - (k + 1) = n - (k + 1) from by omega]
    · refine zfr_trans hf ⟨rfl, fun a ha2 => ⟨?_, rfl, rfl⟩⟩
      rw [show (zuI (rp υ (m + 9) _) m 12 _).2.1 a = (rp υ (m + 9) _).2.1 a from zu_off _ _ _ (by omega), rp_ne (by omega)]
    · rw [zuI_rd, if_neg (by decide), rp_ne (by omega), e0 0 (by decide)]
  unfold fX10_done
  rw [r_int hs, Option.bind_some, c1]
  by_cases e6 : H.length = 6
  · rw [if_pos (by rw [e6]; rfl), r_shift hs, Option.bind_some]
    have hs2 : rsh (rp σ (m + 9) (fun j => if j < 169470 then σ.2.1 (m + 9) (j + 33894) else σ.2.1 (m + 9) j)) m := hs
    rw [r_int hs2, Option.bind_some, rp_ne (by omega), c1, zi_sub, r_put hs2, Option.bind_some]
    refine key _ 5 (by omega) rfl rfl (fun j hj => ?_) (fun o o1 o9 => ?_) ?_ ⟨rfl, fun a ha2 => ⟨?_, rfl, rfl⟩⟩ (by rw [hlen, if_neg (by omega)]) (fun k hk => ?_)
    · rw [zuI_rd, if_neg hj, rp_ne (by omega)]
    · rw [show (zuI (rp σ (m + 9) _) m 12 _).2.1 (m + o) = (rp σ (m + 9) _).2.1 (m + o) from zu_off _ _ _ (by omega), rp_ne (by omega)]
    · rw [zuI_rd, if_pos rfl, e6]; rfl
    · rw [show (zuI (rp σ (m + 9) _) m 12 _).2.1 a = (rp σ (m + 9) _).2.1 a from zu_off _ _ _ (by omega), rp_ne (by omega)]
    · rw [hlen, if_neg (by omega)] at hk
      obtain ⟨N, q1, q2⟩ := c3 k (by omega)
      refine ⟨N, q1, RM_eq q2 (fun j hj => ?_)⟩
      rw [show (zuI (rp σ (m + 9) (fun j => if j < 169470 then σ.2.1 (m + 9) (j + 33894) else σ.2.1 (m + 9) j)) m 12 (zi ((H.length : Int) - 1))).2.1 (m + 9) = (fun j => if j < 169470 then σ.2.1 (m + 9) (j + 33894) else σ.2.1 (m + 9) j) from (zu_off _ _ _ (by omega)).trans rp_at]
      dsimp only
      rw [if_pos (by omega), show 33894 * (5 - (k + 1)) + j + 33894 = 33894 * (H.length - 1 - k) + j from by omega]
  · rw [if_neg (by rw [zi_eq (by omega) (by omega) (by omega) (by omega)]; omega)]
    refine key σ H.length (by omega) rfl rfl (fun _ _ => rfl) (fun _ _ _ => rfl) c1 (zfr_refl _ _ _) (by rw [hlen]; split <;> omega) (fun k hk => ?_)
    have hk2 : k < H.length := by rw [hlen] at hk; split at hk <;> omega
    obtain ⟨N, q1, q2⟩ := c3 k hk2
    exact ⟨N, q1, RM_eq q2 (fun j hj => by rw [show H.length - (k + 1) = H.length - 1 - k from by omega])⟩
/-- the latest change is undone -/
theorem r_undo (h : RI σ m P nm M (N :: H) S tx er ea ou) (hQ : qI P N) : ∃ τ, fX10_undo σ m = some (τ, zi H.length) ∧ RI τ m P nm N H S tx er ea ou ∧ zfr m (m + 15) σ τ ∧ τ.2.1 m 0 = zi 0 := by
  have hs := h.1.1
  obtain ⟨c1, c2, c3⟩ := h.2.2.1
  have hl : (N :: H).length = H.length + 1 := List.length_cons
  have h1 := RI_tl (v := zi 0) h
  have hs1 := h1.1.1
  have e12 : (zuI σ m 0 (zi 0)).2.1 m 12 = zi (H.length + 1 : Nat) := by rw [zuI_rd, if_neg (by decide), c1, hl]
  have f1 : zfr m (m + 15) σ (zuI σ m 0 (zi 0)) := zfr_wide zfr_I (by omega) (by omega)
  have t1 : (zuI σ m 0 (zi 0)).2.1 m 0 = zi 0 := by rw [zuI_rd, if_pos rfl]
  unfold fX10_undo
  rw [r_int hs, Option.bind_some, c1, if_neg (zi_nle (by omega) (by omega) (by omega))]
  unfold jX10_undo_13
  rw [RN_ck hs, r_is1 hs, Option.bind_some]
  dsimp only
  rw [if_neg z10, r_int hs1, Option.bind_some]
  generalize zuI σ m 0 (zi 0) = υ at *
  rw [e12, zi_sub, r_put hs1, Option.bind_some, show ((H.length + 1 : Nat) : Int) - 1 = (H.length : Int) from by omega]
  obtain ⟨d1, d2, d3⟩ := h1.2.2.1
  obtain ⟨N2, q1, q2⟩ := d3 0 (by omega)
  cases q1
  obtain ⟨ω, hω⟩ : ∃ ω, ω = zuI υ m 12 (zi H.length) := ⟨_, rfl⟩
  rw [← hω]
  have hsω : rsh ω m := by rw [hω]; exact hs1
  have o12 : ω.2.1 m 12 = zi H.length := by rw [hω, zuI_rd, if_pos rfl]
  have oo : ∀ o, 1 ≤ o → ω.2.1 (m + o) = υ.2.1 (m + o) := fun o ho => by rw [hω]; exact zu_off _ _ _ (by omega)
  have fω : zfr m (m + 15) υ ω := by rw [hω]; exact zfr_wide zfr_I (by omega) (by omega)
  have hRω : RI ω m P nm M H S tx er ea ou := by
    refine RI_hi h1 (by rw [hω]; rfl) (by rw [hω]; rfl) (fun j hj => by rw [hω, zuI_rd, if_neg (by omega)]) (fun o ho => oo o (by omega)) ⟨o12, by omega, fun k hk => ?_⟩
    obtain ⟨K, r1, r2⟩ := d3 (k + 1) (by omega)
    refine ⟨K, r1, RM_eq r2 (fun j hj => ?_)⟩
    try dsimp only
    rw [oo 9 (by omega), hl, show H.length + 1 - 1 - (k + 1) = H.length - 1 - k from by omega]
  obtain ⟨y, hy, hq⟩ := zloop_run (step := sX10_undo_33 m) (s := (ω, zi 0)) (fuel := zfuel) 33894 (fun i s => s = (rput ω m (fun k => if k < i then ω.2.1 (m + 9) (33894 * H.length + k) else ω.2.1 (m + 4) k), zi (i : Int))) (fun y => y = rput ω m (fun k => if k < 33894 then ω.2.1 (m + 9) (33894 * H.length + k) else ω.2.1 (m + 4) k))
    (fun i s hi hs => by
      subst hs
      refine Or.inl ⟨(rput ω m (fun k => if k < i + 1 then ω.2.1 (m + 9) (33894 * H.length + k) else ω.2.1 (m + 4) k), zi ((i + 1 : Nat) : Int)), ?_, rfl⟩
      have h2 : rsh (rput ω m (fun k => if k < i then ω.2.1 (m + 9) (33894 * H.length + k) else ω.2.1 (m + 4) k)) m := hsω
      unfold sX10_undo_33 sX10_undo_33b
      dsimp only
      rw [if_neg (zi_nle (by omega) (by omega) (by omega)), r_now h2, Option.bind_some, r_hist h2, Option.bind_some, r_int h2, Option.bind_some, rput_ne (by omega), o12, zi_mul, zi_add, zaI_of (33894 * H.length + i) (show (rput ω m _).1 (m + 9) = (1, 203364) from hsω.2.2.2.2.2.2.2.2.2.2.1) (by omega) (by omega) (by omega), Option.bind_some, rput_ne (by omega), wr_A i hsω rfl hi, Option.bind_some, zi_add]
      refine congrArg (fun q => some (Sum.inl (rput ω m q, zi ((i : Int) + 1)))) ?_
      funext j
      unfold qu
      dsimp only
      by_cases e : j = i
      · rw [if_pos e, if_pos (by omega), e]
      · rw [if_neg e]
        by_cases e2 : j < i
        · rw [if_pos e2, if_pos (by omega)]
        · rw [if_neg e2, if_neg (by omega)])
    (fun s hs => by
      subst hs
      refine ⟨_, ?_, rfl⟩
      unfold sX10_undo_33 sX10_undo_33b
      dsimp only
      rw [if_pos (by decide)])
    (zfuel_lt (by omega)) (by
      refine Prod.ext ?_ rfl
      show ω = rput ω m _
      rw [show (fun k => if k < 0 then ω.2.1 (m + 9) (33894 * H.length + k) else ω.2.1 (m + 4) k) = ω.2.1 (m + 4) from by funext j; exact if_neg (by omega), rput_self])
  have hA : RM (fun k => if k < 33894 then ω.2.1 (m + 9) (33894 * H.length + k) else ω.2.1 (m + 4) k) P N := RM_eq q2 (fun j hj => by
    try dsimp only
    rw [if_pos hj, oo 9 (by omega), show (N :: H).length - 1 - 0 = H.length from by omega])
  have hR := RI_now hRω hA hQ
  rw [hy, Option.bind_some, hq, r_int hR.1.1, Option.bind_some, rput_ne (by omega), o12]
  refine ⟨_, rfl, hR, zfr_trans f1 (zfr_trans fω ⟨rfl, fun a ha2 => ⟨rput_ne (by omega), rfl, rfl⟩⟩), ?_⟩
  rw [rput_ne (by omega), hω, zuI_rd, if_neg (by decide)]
  exact t1
theorem r_undo0 (h : RI σ m P nm M [] S tx er ea ou) : fX10_undo σ m = some (zuI σ m 0 (zi 1), zi 0) := by
  have hs := h.1.1
  unfold fX10_undo
  rw [r_int hs, Option.bind_some, h.2.2.1.1, if_pos (by decide)]
  unfold jX10_undo_13
  rw [RN_ck hs, r_is0 hs, Option.bind_some]
  exact if_pos rfl
end RHs
