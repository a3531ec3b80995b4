/-! THE CLASS'S FORECASTS; saving and restoring. -/
section CC
variable {σ : zS} {X w b sz q : Nat} {P : qP} {M N : qM} {H : List qM} {S : Option qM} {nm : Nat → List Int32} {sv : Bool} {tx ou : List Int32} {er ea z : Int} {V : Nat → Nat → Int32} {G : Nat → Option qM}
theorem fput_put {f b u b2 u2 : Nat} {V V2 : Nat → Nat → Int32} : fput (fput σ f V b u) f V2 b2 u2 = fput σ f V2 b2 u2 := by
  unfold fput
  refine Prod.ext rfl (Prod.ext ?_ (Prod.ext ?_ rfl))
  · funext a
    dsimp only
    by_cases e : f ≤ a ∧ a < f + 31
    · rw [if_pos e, if_pos e]
    · rw [if_neg e, if_neg e, if_neg e]
  · funext a j
    dsimp only
    by_cases e : a = f
    · rw [if_pos e, if_pos e, if_pos e]
      by_cases e1 : j = 15 <;> by_cases e2 : j = 16 <;> by_cases e3 : j = 17 <;> simp [e1, e2, e3]
    · rw [if_neg e, if_neg e, if_neg e]
theorem cx_1 {α : Type} {o : Option α} {i : Nat} (hF : FW σ X (X + w) G) (hi : i < 9) : zck 1 σ (fpl X i) o = o := by
  obtain ⟨V0, b0, v0, g1, -⟩ := hF i hi
  exact if_pos g1.1.1
theorem ca_complIn {t : Int} (h : CI σ X P nm M H S tx er ea ou) (hQ : QI z P M H S) (hz : z < 800000000) (ht : zin t) : ((aComplIn P M t).1 = 0 → ∃ τ, fX9_completesIn σ X (zi t) = some (τ, zi (aComplIn P M t).2) ∧ CI τ X P nm M H S tx er ea ou ∧ zfr X (X + 307) σ τ) ∧ ((aComplIn P M t).1 ≠ 0 → tX9_completesIn σ X (zi t) = some 2) := by
  obtain ⟨n1, n2⟩ := cq_needTicks (τ := σ) ht
  unfold aComplIn
  cases k : aTicks t with
  | true =>
    rw [if_pos rfl]
    refine ⟨fun _ => ?_, fun q => absurd rfl q⟩
    obtain ⟨m1, m2⟩ := n1 k
    unfold aTicks at k
    rw [decide_eq_true_iff] at k
    obtain ⟨n, rfl⟩ := nat_of (show 0 ≤ t from by omega)
    obtain ⟨w, q, G, V, b, h1, h2, h3, h4, h5, hN⟩ := CI_open h hQ (by omega)
    unfold fX9_completesIn
    rw [m1, Option.bind_some, cx_now h1.1, Option.bind_some, fi_15 hN.1, Option.bind_some, CN_0 hN hN.2.1.1, CN_exists hN, Option.bind_some]
    dsimp only
    by_cases e : M.1 67 = 1
    · obtain ⟨W, b2, eW, hW, hb⟩ := FW_copy (i := 1) (j := 0) h2 (by omega) (by omega) (by omega) h3 hN.2.2.1 hN.2.2.2.1
      obtain ⟨W2, b3, e2, hW2⟩ := k_comp (t := n) (CR_KS h1 h2 (i := 1) (by omega)) hN.2.2.1 hQ.1.2 (by omega) hW (by omega)
      have hfs : fsh σ (fpl X 1) := (CR_KS h1 h2 (i := 1) (by omega)).1
      refine ⟨_, ?_, CI_try (W := W2) (b2 := b3) (v := X + w) h1 h2 h3 h4 h5 hW2.1, zfr_slot (by omega)⟩
      rw [decide_eq_true e, if_neg (show ¬ zb true = zi 0 from by decide), if_pos e, cx_try h1.1, Option.bind_some, cx_now h1.1, Option.bind_some, cx_1 h2 (by omega), eW, Option.bind_some, cx_try (CR_put h1 (by omega)).1, Option.bind_some, fc_1 hfs, e2, Option.bind_some]
      rfl
    · rw [decide_eq_false e, if_pos (show zb false = zi 0 from rfl), if_neg e]
      exact ⟨σ, rfl, h, zfr_refl _ _ _⟩
  | false =>
    rw [if_neg (by decide)]
    refine ⟨fun q => absurd q (by decide), fun _ => ?_⟩
    unfold tX9_completesIn
    rw [n2 k]
theorem ca_take {d : Bool} (h : CI σ X P nm M H S tx er ea ou) (hQ : QI z P M H S) (hz : z < 800000000) : ∃ τ, fX9_wouldTake σ X (zb d) = some (τ, zi (aTake P M (if d then 1 else 0))) ∧ CI τ X P nm M H S tx er ea ou ∧ zfr X (X + 307) σ τ := by
  obtain ⟨w, q, G, V, b, h1, h2, h3, h4, h5, hN⟩ := CI_open h hQ (by omega)
  have hd : zb d = zi (if d then 1 else 0) := by cases d <;> rfl
  unfold fX9_wouldTake aTake
  rw [cx_now h1.1, Option.bind_some, fi_15 hN.1, Option.bind_some, CN_0 hN hN.2.1.1, CN_exists hN, Option.bind_some]
  dsimp only
  by_cases e : M.1 67 = 1
  · rw [decide_eq_true e, if_neg (show ¬ zb true = zi 0 from by decide), if_pos e]
    exact ⟨σ, rfl, h, zfr_refl _ _ _⟩
  · have e0 : M.1 67 = 0 := by
      rcases hN.2.2.1.1.2.1.2.2.2.2.2.2.2.1 with q | q
      · exact q
      · exact absurd q e
    have ho : (if d then (1 : Int) else 0) = 0 ∨ (if d then (1 : Int) else 0) = 1 := by cases d <;> simp
    have hfs : fsh σ (fpl X 1) := (CR_KS h1 h2 (i := 1) (by omega)).1
    obtain ⟨W, b2, eW, hW, hb⟩ := FW_copy (i := 1) (j := 0) h2 (by omega) (by omega) (by omega) h3 hN.2.2.1 hN.2.2.2.1
    obtain ⟨W1, e1, hW1⟩ := k_begin (u := X + w) hfs hW ho
    obtain ⟨W2, b3, e2, hW2⟩ := k_comp (t := 500) (CR_KS h1 h2 (i := 1) (by omega)) (qI_begin hN.2.2.1 e0 ho ⟨hQ.1.2.1.1, hQ.1.2.2.1.1⟩) (KB_begin hQ.1.2) (by omega) hW1 (by omega)
    refine ⟨_, ?_, CI_try (W := W2) (b2 := b3) (v := X + w) h1 h2 h3 h4 h5 hW2.1, zfr_slot (by omega)⟩
    rw [decide_eq_false e, if_pos (show zb false = zi 0 from rfl), if_neg e, cx_try h1.1, Option.bind_some, cx_now h1.1, Option.bind_some, cx_1 h2 (by omega), eW, Option.bind_some, cx_try (CR_put h1 (by omega)).1, Option.bind_some, fc_1 hfs, hd, e1, Option.bind_some, cx_try (CR_put h1 (by omega)).1, Option.bind_some, fc_1 hfs, show zi 500 = zi ((500 : Nat) : Int) from rfl, e2, Option.bind_some]
theorem qfind_ge {p : Nat → Bool} {n : Nat} : -1 ≤ qfind p n ∧ qfind p n < n := by
  unfold qfind
  cases e : (List.range n).find? p with
  | none => dsimp only; omega
  | some k =>
    have := List.mem_of_find?_eq_some e
    rw [List.mem_range] at this
    dsimp only; omega
theorem ca_keep (h : CI σ X P nm M H S tx er ea ou) (hQ : QI z P M H S) (hz : z < 800000000) : ∃ τ, fX9_wouldKeep σ X = some (τ, zi (aKeep P M)) ∧ CI τ X P nm M H S tx er ea ou ∧ zfr X (X + 307) σ τ := by
  obtain ⟨w, q, G, V, b, h1, h2, h3, h4, h5, hN⟩ := CI_open h hQ (by omega)
  unfold fX9_wouldKeep aKeep
  rw [cx_now h1.1, Option.bind_some, fi_15 hN.1, Option.bind_some, CN_0 hN hN.2.1.1, CN_exists hN, Option.bind_some]
  dsimp only
  by_cases e : M.1 67 = 1
  · rw [decide_eq_true e, if_neg (show ¬ zb true = zi 0 from by decide), if_pos e]
    exact ⟨σ, rfl, h, zfr_refl _ _ _⟩
  · have e0 : M.1 67 = 0 := by
      rcases hN.2.2.1.1.2.1.2.2.2.2.2.2.2.1 with q | q
      · exact q
      · exact absurd q e
    have hfs : fsh σ (fpl X 1) := (CR_KS h1 h2 (i := 1) (by omega)).1
    obtain ⟨W, b2, eW, hW, hb⟩ := FW_copy (i := 1) (j := 0) h2 (by omega) (by omega) (by omega) h3 hN.2.2.1 hN.2.2.2.1
    obtain ⟨W1, e1, hW1⟩ := k_begin (u := X + w) hfs hW (Or.inr rfl : (1 : Int) = 0 ∨ (1 : Int) = 1)
    have hI1 := qI_begin hN.2.2.1 e0 (Or.inr rfl : (1 : Int) = 0 ∨ (1 : Int) = 1) ⟨hQ.1.2.1.1, hQ.1.2.2.1.1⟩
    obtain ⟨W2, b3, e2, hW2⟩ := k_comp (t := 500) (CR_KS h1 h2 (i := 1) (by omega)) hI1 (KB_begin hQ.1.2) (by omega) hW1 (by omega)
    have hge := qfind_ge (p := qcomp P (qbegin 1 M)) (n := 500 + 1)
    have hq : qcw P (qbegin 1 M) 500 = qfind (qcomp P (qbegin 1 M)) (500 + 1) := rfl
    refine ⟨_, ?_, CI_try (W := W2) (b2 := b3) (v := X + w) h1 h2 h3 h4 h5 hW2.1, zfr_slot (by omega)⟩
    rw [decide_eq_false e, if_pos (show zb false = zi 0 from rfl), if_neg e, cx_try h1.1, Option.bind_some, cx_now h1.1, Option.bind_some, cx_1 h2 (by omega), eW, Option.bind_some, cx_try (CR_put h1 (by omega)).1, Option.bind_some, fc_1 hfs, e1, Option.bind_some, cx_try (CR_put h1 (by omega)).1, Option.bind_some, fc_1 hfs, show zi 500 = zi ((500 : Nat) : Int) from rfl, e2, Option.bind_some]
    dsimp only
    by_cases e5 : qcw P (qbegin 1 M) 500 = -1
    · rw [if_pos (by rw [e5]), if_pos e5]
    · rw [if_neg (by rw [zi_eq (by omega) (by omega) (by omega) (by omega)]; exact e5), if_neg e5, cx_try (CR_put h1 (by omega)).1, Option.bind_some, fr_16 hfs, Option.bind_some, cg_i hfs (fx_other hW2.1).1, Option.bind_some]
      -- a checkpoint was completed: so one is there
      have hdone := qcw_done hI1 (KB_begin hQ.1.2) e5
      rw [(hW2.2.2.2.2 hdone).2.2.2.2.1]
theorem CR_sv {sv2 : Bool} (h : CR σ X w P nm sv sz q tx er ea ou) : CR (zuI σ X 7 (zb sv2)) X w P nm sv2 sz q tx er ea ou := by
  have e : zfr X (X + 1) σ (zuI σ X 7 (zb sv2)) := zfr_I
  have e1 : zeq σ (zuI σ X 7 (zb sv2)) (X + 1) (X + 307) := zfr_eq e (by omega)
  obtain ⟨a1, a2, a3, ⟨b1, b2, b3⟩, ⟨c1, c2⟩, a6, a7, a8, a9, a10⟩ := h
  have eo : ∀ o, 1 ≤ o → o < 307 → (zuI σ X 7 (zb sv2)).2.1 (X + o) = σ.2.1 (X + o) := fun o h1 ho => (e1 (X + o) (by omega) (by omega)).2.1
  refine ⟨a1, a2, a3, ⟨SU_eq b1 (zeq_sub e1 (by omega) (by omega)), SN_eq b2 (zeq_sub e1 (by omega) (by omega)), b3⟩, ⟨c1, c2⟩, by rw [zuI_rd, if_pos rfl], ?_, ?_, by rw [eo 3 (by omega) (by omega)]; exact a9, ?_⟩
  · rw [eo 119 (by omega) (by omega)]; exact a7
  · rw [eo 1 (by omega) (by omega), eo 2 (by omega) (by omega)]; exact a8
  · rw [eo 4 (by omega) (by omega), eo 5 (by omega) (by omega)]; exact a10
theorem ca_save (h : CI σ X P nm M H S tx er ea ou) (hQ : QI z P M H S) (hz : z < 800000000) : ∃ τ, fX9_saveState σ X = some (τ, zi (M.1 0)) ∧ CI τ X P nm M H (some M) tx er ea ou ∧ zfr X (X + 307) σ τ := by
  obtain ⟨w, q, G, V, b, h1, h2, h3, h4, h5, hN⟩ := CI_open h hQ (by omega)
  obtain ⟨W, b2, eW, hW, hb⟩ := FW_copy (i := 2) (j := 0) h2 (by omega) (by omega) (by omega) h3 hN.2.2.1 hN.2.2.2.1
  have hR1 := CR_put (V := W) (b := b2) (v := X + w) (i := 2) h1 (by omega)
  have hF1 := FW_put (V := W) (b := b2) (v := X + w) (i := 2) (o := some M) h2 (by omega) hb (fun K hK => by cases hK; exact ⟨rfl, hW⟩)
  have hf1 : zfr X (X + 307) σ (fput σ (fpl X 2) W b2 (X + w)) := zfr_slot (by omega)
  generalize fput σ (fpl X 2) W b2 (X + w) = τ at *
  have hR2 := CR_sv (sv2 := true) hR1
  have hf2 : zfr X (X + 1) τ (zuI τ X 7 (zb true)) := zfr_I
  have hF2 : FW (zuI τ X 7 (zb true)) X (X + w) (qu G 2 (some M)) := FW_eq hF1 (fun i hi => by have := fpl_in (X := X) hi; exact zfr_eq hf2 (by omega))
  obtain ⟨V2, b4, hN2⟩ := CN_of hR2 hF2 (by rw [qu_ne (by omega)]; exact h3) hQ.1.1 hQ.1.2 (by omega)
  refine ⟨_, ?_, ⟨w, q, _, hR2, hF2, by rw [qu_ne (by omega)]; exact h3, fun K hK => by rw [qu_at]; exact hK, fun k hk => by rw [qu_ne (by omega)]; exact h5 k hk⟩, zfr_trans hf1 (zfr_wide hf2 (by omega) (by omega))⟩
  unfold fX9_saveState
  rw [cx_sav h1.1, Option.bind_some, cx_now h1.1, Option.bind_some, cx_1 h2 (by omega), eW, Option.bind_some, show zpZ 8 7 τ X (zi 1) = some (zuI τ X 7 (zb true)) from if_pos ⟨hR1.1.1, Or.inr rfl⟩, Option.bind_some, cx_now hR2.1, Option.bind_some, CN_i hN2 (by omega), Option.bind_some]
  rfl
theorem ca_restore (h : CI σ X P nm M H (some N) tx er ea ou) (hQ : QI z P M H (some N)) (hz : z < 800000000) : ∃ τ, fX9_restoreState σ X = some (τ, zi (N.1 0)) ∧ CI τ X P nm N [] (some N) tx er ea ou ∧ zfr X (X + 307) σ τ := by
  obtain ⟨w, q, G, V, b, h1, h2, h3, h4, h5, hN⟩ := CI_open h hQ (by omega)
  have hQN := hQ.2.2 N rfl
  obtain ⟨W, b2, eW, hW, hb⟩ := FW_copy (i := 0) (j := 2) h2 (by omega) (by omega) (by omega) (h4 N rfl) hQN.1 (KB_T hQN.2 (by omega))
  have hR1 := CR_put (V := W) (b := b2) (v := X + w) (i := 0) h1 (by omega)
  have hF1 := FW_put (V := W) (b := b2) (v := X + w) (i := 0) (o := some N) h2 (by omega) hb (fun K hK => by cases hK; exact ⟨rfl, hW⟩)
  have hf1 : zfr X (X + 307) σ (fput σ (fpl X 0) W b2 (X + w)) := zfr_slot (by omega)
  have hk1 := hR1.1.2.2.1.1
  have hq := hR1.2.2.2.2.2.2.1
  have hR2 := CR_past (n := 0) (m := q) hR1 (by omega) hq.2.2.2
  have em : zuI (fput σ (fpl X 0) W b2 (X + w)) (X + 119) 1 (zi q) = fput σ (fpl X 0) W b2 (X + w) := by
    refine Prod.ext rfl (Prod.ext ?_ rfl)
    funext a i
    show zu _ _ _ _ a i = _
    unfold zu
    split
    · rename_i e
      rw [e.1, e.2, hq.2.1]
    · rfl
  rw [em] at hR2
  generalize fput σ (fpl X 0) W b2 (X + w) = τ at *
  have hf2 : zfr (X + 119) (X + 120) τ (zuI τ (X + 119) 0 (zi (0 : Nat))) := zfr_I
  have hF2 : FW (zuI τ (X + 119) 0 (zi (0 : Nat))) X (X + w) (qu G 0 (some N)) := FW_eq hF1 (fun i hi => by have := fpl_in (X := X) hi; exact zfr_eq hf2 (by omega))
  obtain ⟨V2, b4, hN2⟩ := CN_of hR2 hF2 (qu_at _ _ _) hQN.1 hQN.2 (by omega)
  refine ⟨_, ?_, ⟨w, q, _, hR2, hF2, qu_at _ _ _, fun K hK => by rw [qu_ne (by omega)]; exact h4 K hK, fun k hk => absurd hk (Nat.not_lt_zero _)⟩, zfr_trans hf1 (zfr_wide hf2 (by omega) (by omega))⟩
  unfold fX9_restoreState
  rw [show zgI 8 7 σ X = some (zi 1) from (if_pos h1.1.1).trans (congrArg some h1.2.2.2.2.2.1), Option.bind_some, if_neg (by decide), cx_now h1.1, Option.bind_some, cx_sav h1.1, Option.bind_some, cx_1 h2 (by omega), eW, Option.bind_some, cx_past hR1.1, Option.bind_some, cx_6 hR1.1]
  unfold fX6_forget
  rw [cx_6i hk1, Option.bind_some, Option.bind_some, show zi 0 = zi ((0 : Nat) : Int) from rfl, cx_now hR2.1, Option.bind_some, CN_i hN2 (by omega), Option.bind_some]
  rfl
theorem ca_restore0 (h : CI σ X P nm M H none tx er ea ou) (hQ : QI z P M H none) (hz : z < 800000000) : tX9_restoreState σ X = some 3 := by
  obtain ⟨w, q, G, V, b, h1, h2, h3, h4, h5, hN⟩ := CI_open h hQ (by omega)
  unfold tX9_restoreState
  rw [show zgI 8 7 σ X = some (zi 0) from (if_pos h1.1.1).trans (congrArg some h1.2.2.2.2.2.1), Option.bind_some, if_pos rfl]
end CC
