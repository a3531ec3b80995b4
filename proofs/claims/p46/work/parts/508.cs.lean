/-! The class's flow shows the latest checkpoint. -/
def KS (σ : zS) (f u : Nat) (P : qP) : Prop := fsh σ f ∧ SU σ u P ∧ (u + 10 ≤ f ∨ f + 31 ≤ u) ∧ qPok P
theorem KS_su {σ : zS} {f b u : Nat} {V : Nat → Nat → Int32} {P : qP} (h : KS σ f u P) : SU (fput σ f V b u) u P := SU_put h.2.1 h.2.2.1
/-- what k sinks' results shown come to -/
def qshk (L : Nat → List Nat) (k c : Nat) : List Nat := if 28 ≤ c ∧ c < 28 + k then L c ++ L (c - 2) else if 26 ≤ c ∧ c < 26 + k then [] else L c
theorem qshk_0 (L : Nat → List Nat) : qshk L 0 = L := by
  funext c
  unfold qshk
  rw [if_neg (by omega), if_neg (by omega)]
theorem qshk_s {L : Nat → List Nat} {k : Nat} (hk : k < 2) : qu (qu (qshk L k) (28 + k) (qshk L k (28 + k) ++ qshk L k (26 + k))) (26 + k) [] = qshk L (k + 1) := by
  funext c
  by_cases e : c = 26 + k
  · rw [e, qu_at]
    unfold qshk
    rw [if_neg (by omega), if_pos (by omega)]
  · rw [qu_ne e]
    by_cases e2 : c = 28 + k
    · rw [e2, qu_at]
      unfold qshk
      rw [if_neg (by omega), if_neg (by omega), if_neg (by omega), if_neg (by omega), if_pos (by omega), show 28 + k - 2 = 26 + k from by omega]
    · rw [qu_ne e2]
      unfold qshk
      by_cases e3 : 28 ≤ c ∧ c < 28 + k
      · rw [if_pos e3, if_pos (by omega)]
      · rw [if_neg e3, if_neg (show ¬ (28 ≤ c ∧ c < 28 + (k + 1)) from by omega)]
        by_cases e4 : 26 ≤ c ∧ c < 26 + k
        · rw [if_pos e4, if_pos (by omega)]
        · rw [if_neg e4, if_neg (by omega)]
theorem gF_of {M N : qM} (h : ∀ k, k < 9 → N.1 k = M.1 k) {j : Nat} (hj : j < 9) : gF N j = gF M j := by
  unfold gF
  rw [h 0 (by omega), h 1 (by omega), h 2 (by omega), h 3 (by omega), h 4 (by omega), h j hj]
section KX
variable {σ : zS} {f b u : Nat} {V : Nat → Nat → Int32} {M : qM} {P : qP}
theorem k_show (h : KS σ f u P) (hC : RC V b M) (hD : LD M.2.1) (h1 : M.1 118 = 1 → 1 ≤ M.1 119) (h2 : M.1 119 < 1000000000) (h3 : M.1 118 = 1 → M.1 123 = 0 ∨ M.1 123 = 1) : ∃ W, fX1_showLatest (fput σ f V b u) f = some (fput σ f W b u) ∧ RC W b (qshow P M) ∧ LD (qshow P M).2.1 := by
  have hs := h.1
  have hx := hC.1
  have hx2 := (fx_other hx).1
  have fk := flen_k hx2
  have fb := flen_k hx
  have h1P := h.2.2.2.2.2.1
  have h2P := h.2.2.2.2.2.2.1
  unfold fX1_showLatest
  rw [fr_16 hs, Option.bind_some, fc_0 hs hx2, k_done hs hC h1 h2, Option.bind_some]
  dsimp only
  by_cases e : M.1 118 = 1
  · rw [decide_eq_true e, if_neg (show ¬ zb true = zi 0 from by decide), fr_16 hs, Option.bind_some, cg_i hs hx2, Option.bind_some, (hC.2.2.2.2 e).2.2.2.1]
    rcases h3 e with e2 | e2
    · rw [e2, if_pos rfl]
      obtain ⟨W, eW, hW, fW⟩ := cfor (σ := σ) (f := f) (b := b) (u := u) (step := sX1_showLatest_23 f) 0 P.2.1 (fun k W => LLD W 6 (qshk M.2.1 k) ∧ ∀ p, (p ≤ 6 ∨ 10 < p) → W p = V p)
        (fun k W _ hk hW => by
          obtain ⟨W2, e3, hW2, fW2⟩ := d_moves (σ := σ) (f := f) (b := b) (u := u) (V := W) (l := 26 + k) (m := 28 + k) hs (Or.inl rfl) hW.1 (by omega) (by omega) (by omega)
          refine ⟨W2, ?_, ?_, fun p hp => ?_⟩
          · unfold sX1_showLatest_23 sX1_showLatest_23b
            dsimp only
            rw [fr_17 hs, Option.bind_some, su_i (KS_su h), Option.bind_some, (KS_su h).2.2.1, if_neg (zi_nle (by omega) (by omega) (by omega)), fr_14 hs, Option.bind_some, fc_3 hs (Or.inl rfl), zi_add, zi_add, show (26 : Int) + (k : Int) = ((26 + k : Nat) : Int) from by omega, show (28 : Int) + (k : Int) = ((28 + k : Nat) : Int) from by omega, e3, Option.bind_some]
          · rw [← qshk_s (by omega)]; exact hW2
          · rw [fW2 p (by omega)]; exact hW.2 p hp)
        (fun W hW => by
          unfold sX1_showLatest_23 sX1_showLatest_23b
          dsimp only
          rw [fr_17 hs, Option.bind_some, su_i (KS_su h), Option.bind_some, (KS_su h).2.2.1, if_pos (by rw [zi_le (by omega) (by omega) (by omega) (by omega)]; omega)])
        (by omega) (by omega) (V := V) (x := 0) rfl ⟨⟨by rw [qshk_0]; exact hC.2.1.2.2.2.2.2.2.2.2, by rw [qshk_0]; exact hD⟩, fun p _ => rfl⟩
      have hq : qshow P M = (qu M.1 123 1, qshk M.2.1 P.2.1, M.2.2) := if_pos ⟨e, e2⟩
      rw [eW, Option.bind_some, fr_16 hs, Option.bind_some, cp_z hs hx2 (Or.inr rfl), Option.bind_some, hq]
      refine ⟨_, rfl, ⟨hx, ?_, ?_, ?_⟩, hW.2⟩
      · obtain ⟨a0, a1, a2, a3, a4, a5, a6, a7, a8⟩ := hC.2.1
        have wp : ∀ p, (p ≤ 6 ∨ p = 29 ∨ p = 30) → vs W (31 - b) 4 (zi 1) p = V p := fun p hp => by
          rw [vs_no (by omega)]; exact fW p (by omega)
        refine ⟨row_of a0 (fun j _ => by rw [wp 0 (by omega)]) (fun j hj => ?_), row_of a1 (fun j _ => by rw [wp 1 (by omega)]) (fun j hj => qu_ne (by omega)), row_of a2 (fun j _ => by rw [wp 2 (by omega)]) (fun j hj => qu_ne (by omega)), row_of a3 (fun j _ => by rw [wp 3 (by omega)]) (fun j hj => qu_ne (by omega)), row_of a4 (fun j _ => by rw [wp 4 (by omega)]) (fun j hj => qu_ne (by omega)),
          row_of a5 (fun j _ => by rw [wp 5 (by omega)]) (fun j hj => gmask_of fun x hx => qu_ne (by omega)), row_of a6 (fun j _ => by rw [wp 29 (by omega)]) (fun j hj => qu_ne (by omega)), row_of a7 (fun j _ => by rw [wp 30 (by omega)]) (fun j hj => rfl), LL_of2 hW.1 (fun p h1 h2 => vs_no (by omega)) (fun l hl2 => rfl)⟩
        exact gF_of (fun k hk => qu_ne (by omega)) hj
      · have far := fun p (q1 : b ≤ p) (q2 : p ≤ b + 8) => fx_far hx q1 q2
        refine RP_of hC.2.2.1 (fun p q1 q2 => ?_) (fun k hk => qu_ne (by omega)) (fun c c1 c2 => ?_)
        · rw [vs_no (by have := far p q1 q2; omega)]; exact fW p (by omega)
        · show qshk M.2.1 P.2.1 c = M.2.1 c
          unfold qshk
          rw [if_neg (by omega), if_neg (by omega)]
      · obtain ⟨a0, a1⟩ := hC.2.2.2
        obtain ⟨c1, c2, c3, c4, c6, r2, r3, l⟩ := a1 e
        have wp : ∀ p, 31 - b < p → p ≤ 31 - b + 8 → vs W (31 - b) 4 (zi 1) p = V p := fun p q1 q2 => by
          rw [vs_no (by omega)]; exact fW p (by omega)
        have w0 : ∀ j, j ≠ 4 → vs W (31 - b) 4 (zi 1) (31 - b) j = V (31 - b) j := fun j hj => by
          rw [vs_ne (by omega), fW _ (by omega)]
        have lq : ∀ c, 54 ≤ c → c < 54 + 24 → qshk M.2.1 P.2.1 c = M.2.1 c := fun c q1 q2 => by
          unfold qshk
          rw [if_neg (by omega), if_neg (by omega)]
        have n1 : ∀ k, k ≠ 123 → qu M.1 123 1 k = M.1 k := fun k hk => qu_ne hk
        refine ⟨?_, fun _ => ⟨?_, ?_, ?_, ?_, ?_, row_of r2 (fun j _ => by rw [wp _ (by omega) (by omega)]) (fun j hj => n1 _ (by omega)), row_of r3 (fun j _ => by rw [wp _ (by omega) (by omega)]) (fun j hj => n1 _ (by omega)), LL_of2 l (fun p q1 q2 => wp p (by omega) (by omega)) (fun l _ => ?_)⟩⟩
        · rw [w0 0 (by omega), a0]
          show zi (if M.1 118 = 1 then M.1 119 else 0) = zi (if qu M.1 123 1 118 = 1 then qu M.1 123 1 119 else 0)
          rw [n1 118 (by omega), n1 119 (by omega)]
        · rw [w0 1 (by omega), c1]; exact congrArg zi (n1 120 (by omega)).symm
        · rw [w0 2 (by omega), c2]; exact congrArg zi (n1 121 (by omega)).symm
        · rw [w0 3 (by omega), c3]; exact congrArg zi (n1 122 (by omega)).symm
        · rw [vs_at]; exact congrArg zi (qu_at M.1 123 (1 : Int)).symm
        · rw [w0 6 (by omega), c6]
          exact congrArg (fun n : Nat => zi (n : Int)) (gtot_of (M := M) (N := (qu M.1 123 1, qshk M.2.1 P.2.1, M.2.2)) lq).symm
        · rw [gK_of (M := M) (N := (qu M.1 123 1, qshk M.2.1 P.2.1, M.2.2)) lq]
    · rw [e2, if_neg (by decide)]
      have hq : qshow P M = M := if_neg (fun q => by omega)
      rw [hq]
      exact ⟨V, rfl, hC, hD⟩
  · rw [decide_eq_false e, if_pos (show zb false = zi 0 from rfl)]
    have hq : qshow P M = M := if_neg (fun q => e q.1)
    rw [hq]
    exact ⟨V, rfl, hC, hD⟩
end KX
