/-! The class's queries. -/
section CQ
variable {σ : zS} {X w b sz q : Nat} {P : qP} {M : qM} {nm : Nat → List Int32} {sv : Bool} {tx ou : List Int32} {er ea : Int} {V : Nat → Nat → Int32} {G : Nat → Option qM}
theorem cx_r {j a : Nat} (h : (σ.1 X).1 = 13) (hr : σ.2.2.1 X j = some a) : zgR 8 j σ X = some a := by
  unfold zgR
  rw [if_pos (show (σ.1 X).1 = 8 + 5 from h)]
  exact hr
theorem cx_c {α : Type} {o : Option α} (h : csh σ X) : zck 8 σ X o = o := if_pos h.1
theorem cx_in (h : csh σ X) : zgR 8 0 σ X = some (X + 1) := cx_r h.1 h.2.1.1
theorem cx_pa (h : csh σ X) : zgR 8 1 σ X = some (X + 3) := cx_r h.1 h.2.1.2.1
theorem cx_ou (h : csh σ X) : zgR 8 2 σ X = some (X + 4) := cx_r h.1 h.2.1.2.2.1
theorem cx_past (h : csh σ X) : zgR 8 3 σ X = some (X + 119) := cx_r h.1 h.2.1.2.2.2.1
theorem cx_now (h : csh σ X) : zgR 8 4 σ X = some (fpl X 0) := cx_r h.1 h.2.1.2.2.2.2.1
theorem cx_try (h : csh σ X) : zgR 8 5 σ X = some (fpl X 1) := cx_r h.1 h.2.1.2.2.2.2.2.1
theorem cx_sav (h : csh σ X) : zgR 8 6 σ X = some (fpl X 2) := cx_r h.1 h.2.1.2.2.2.2.2.2
theorem cx_set (h : CR σ X w P nm sv sz q tx er ea ou) : zgR 8 8 σ X = some (X + w) := cx_r h.1.1 h.2.2.1.1
theorem cx_dra (h : CR σ X w P nm sv sz q tx er ea ou) : zgR 8 9 σ X = some (X + (22 - w)) := cx_r h.1.1 h.2.2.1.2
theorem cx_past_i {j : Nat} (h : csh σ X) : zgI 6 j σ (X + 119) = some (σ.2.1 (X + 119) j) := by
  unfold zgI
  rw [if_pos (show (σ.1 (X + 119)).1 = 6 + 5 from h.2.2.1.1)]
theorem cs_0 (h : SU σ (X + w) P) : zgI 7 0 σ (X + w) = some (zi P.1) := by rw [su_i h, h.2.1]
theorem cs_1 (h : SU σ (X + w) P) : zgI 7 1 σ (X + w) = some (zi P.2.1) := by rw [su_i h, h.2.2.1]
/-- the flow now, as it lies in the heap -/
def CN (σ : zS) (X w : Nat) (V : Nat → Nat → Int32) (b : Nat) (P : qP) (M : qM) : Prop := fis σ (fpl X 0) V b (X + w) ∧ RC V b M ∧ qI P M ∧ KT M ∧ KS σ (fpl X 0) (X + w) P
theorem CN_i {j : Nat} (h : CN σ X w V b P M) (hj : j < 9) : zgI 1 j σ (fpl X 0) = some (zi (gF M j)) := by rw [fi_i h.1, h.2.1.2.1.1 j hj]
theorem CN_many (h : CN σ X w V b P M) : zgI 1 0 σ (fpl X 0) = some (zi (qmany M)) := by
  have := k_many (u := X + w) h.2.2.1 h.1.1 h.2.1
  rwa [fput_self h.1] at this
theorem CN_c {α : Type} {o : Option α} (h : CN σ X w V b P M) : zck 1 σ (fpl X 0) o = o := if_pos h.1.1.1
theorem CN_3 {α : Type} {o : Option α} (h : CN σ X w V b P M) : zck 3 σ (fpl X 0 + 6) o = o := if_pos (fk_3 h.1.1 (Or.inl rfl))
theorem CN_0 {α : Type} {o : Option α} {x : Nat} (h : CN σ X w V b P M) (hx : fx x) : zck 0 σ (fpl X 0 + x) o = o := if_pos (fk_0 h.1.1 hx)
theorem CN_a {x : Int} (o i : Nat) (h : CN σ X w V b P M) (ho : o < 31) (hx : x = i) (hi : i < flen o) : zaI σ (fpl X 0 + o) (zi x) = some (V o i) := by
  have := fa_rd (V := V) (b := b) (u := X + w) o i h.1.1 ho hx hi
  rwa [fput_self h.1] at this
theorem CN_size {l : Nat} (h : CN σ X w V b P M) (hl : l < 30) : fX3_sizeOf σ (fpl X 0 + 6) (zi l) = some (σ, zi (M.2.1 l).length) := by
  have := c_sizeOf (u := X + w) (b := b) h.1.1 (Or.inl rfl) h.2.1.2.1.2.2.2.2.2.2.2.2 hl
  rwa [fput_self h.1] at this
theorem CN_first {l : Nat} (h : CN σ X w V b P M) (hl : l < 30) : fX3_firstOf σ (fpl X 0 + 6) (zi l) = some (σ, zi (lhd (M.2.1 l))) := by
  have := c_firstOf (u := X + w) (b := b) h.1.1 (Or.inl rfl) h.2.1.2.1.2.2.2.2.2.2.2.2 hl
  rwa [fput_self h.1] at this
theorem CN_behind {n : Nat} (h : CN σ X w V b P M) (hn : n < 800) : fX3_behind σ (fpl X 0 + 6) (zi n) = some (σ, V 7 n) := by
  have := c_behind (V := V) (u := X + w) (b := b) h.1.1 (o := 6) (Or.inl rfl) hn
  rwa [fput_self h.1] at this
theorem CN_exists (h : CN σ X w V b P M) : fX0_exists σ (fpl X 0 + b) = some (σ, zb (decide (M.1 67 = 1))) := by
  have := kx_exists h.2.2.2.2 h.2.2.1 h.2.2.2.1 h.2.1
  rwa [fput_self h.1] at this
theorem CN_done (h : CN σ X w V b P M) : fX0_exists σ (fpl X 0 + (31 - b)) = some (σ, zb (decide (M.1 118 = 1))) := by
  have := k_done (u := X + w) h.1.1 h.2.1 h.2.2.1.1.2.2.2.2.2.2.2.2 h.2.2.2.1.2.2.2
  rwa [fput_self h.1] at this
theorem CN_risk (h : CN σ X w V b P M) : fX1_recordsAtRisk σ (fpl X 0) = some (σ, zi (qrisk P M)) := by
  have := k_risk h.2.2.2.2 h.2.2.1 h.2.2.2.1 h.2.1
  rwa [fput_self h.1] at this
theorem CN_pos (h : CN σ X w V b P M) : fX1_positionsInAll σ (fpl X 0) = some (σ, zi (qpos P M)) := by
  have := k_pos h.2.2.2.2 h.2.1
  rwa [fput_self h.1] at this
theorem zb_ne (d : Bool) : (zb d = zi 0) = (d = false) := propext (zb_eq0 d)
theorem cq_count {x : Int} (hR : CR σ X w P nm sv sz q tx er ea ou) (h : CN σ X w V b P M) (hx : zin x) : fX9_count σ X (zi x) = some (σ, zi (aCount P M sz x)) := by
  obtain ⟨x1, x2⟩ := hx
  have hS := hR.2.2.2.1.1
  have e : ∀ k : Int, 0 ≤ k → k < 100 → ((zi x = zi k) = (x = k)) := fun k k1 k2 => propext (zi_eq x1 x2 (by omega) (by omega))
  have h4 := h.2.2.1.1.2.1.2.2.2.1
  unfold fX9_count aCount
  simp only [e 0 (by omega) (by omega), e 1 (by omega) (by omega), e 2 (by omega) (by omega), e 3 (by omega) (by omega), e 4 (by omega) (by omega), e 5 (by omega) (by omega), e 6 (by omega) (by omega), e 7 (by omega) (by omega), e 8 (by omega) (by omega), e 9 (by omega) (by omega), e 10 (by omega) (by omega), e 11 (by omega) (by omega), cx_set hR, cx_now hR.1, cx_past hR.1, cs_0 hS, cs_1 hS, cx_past_i hR.1, hR.2.2.2.2.2.2.1.1, CN_i h (show 0 < 9 by omega), CN_i h (show 1 < 9 by omega), CN_i h (show 2 < 9 by omega), CN_i h (show 3 < 9 by omega), CN_i h (show 4 < 9 by omega), CN_i h (show 5 < 9 by omega), CN_i h (show 6 < 9 by omega), CN_i h (show 7 < 9 by omega), CN_i h (show 8 < 9 by omega), Option.bind_some]
  have e4 : (if zi (gF M 3) = zi 0 then some (σ, zi 0) else some (σ, zi 1)) = some (σ, zi (M.1 4)) := by
    show (if zi (M.1 4) = zi 0 then _ else _) = _
    rcases h4 with k | k <;> rw [k]
    · exact if_pos rfl
    · exact if_neg (by decide)
  rw [e4]
  by_cases k0 : x = 0
  · rw [if_pos k0, if_pos k0]
  · rw [if_neg k0, if_neg k0]
    by_cases k1 : x = 1
    · rw [if_pos k1, if_pos k1]; rfl
    · rw [if_neg k1, if_neg k1]
      by_cases k2 : x = 2
      · rw [if_pos k2, if_pos k2]
      · rw [if_neg k2, if_neg k2]
        by_cases k3 : x = 3
        · rw [if_pos k3, if_pos k3]; rfl
        · rw [if_neg k3, if_neg k3]
          by_cases k4 : x = 4
          · rw [if_pos k4, if_pos k4]; rfl
          · rw [if_neg k4, if_neg k4]
            by_cases k5 : x = 5
            · rw [if_pos k5, if_pos k5]; rfl
            · rw [if_neg k5, if_neg k5]
              by_cases k6 : x = 6
              · rw [if_pos k6, if_pos k6]; rfl
              · rw [if_neg k6, if_neg k6]
                by_cases k7 : x = 7
                · rw [if_pos k7, if_pos k7]; rfl
                · rw [if_neg k7, if_neg k7]
                  by_cases k8 : x = 8
                  · rw [if_pos k8, if_pos k8]; rfl
                  · rw [if_neg k8, if_neg k8]
                    by_cases k9 : x = 9
                    · rw [if_pos k9, if_pos k9]; rfl
                    · rw [if_neg k9, if_neg k9]
                      by_cases k10 : x = 10
                      · rw [if_pos k10, if_pos k10]
                      · rw [if_neg k10, if_neg k10]
                        by_cases k11 : x = 11
                        · rw [if_pos k11, if_pos k11]
                        · rw [if_neg k11, if_neg k11]
theorem cq_needSource {a : Int} (hR : CR σ X w P nm sv sz q tx er ea ou) (hx : zin a) : (0 ≤ a ∧ a < P.1 → fX9_needSource σ X (zi a) = some σ ∧ tX9_needSource σ X (zi a) = none) ∧ (¬ (0 ≤ a ∧ a < P.1) → tX9_needSource σ X (zi a) = some 1) := by
  obtain ⟨x1, x2⟩ := hx
  have hS := hR.2.2.2.1.1
  have hP4 := hR.2.2.2.1.2.2.2.1
  unfold fX9_needSource tX9_needSource
  rw [cx_set hR, Option.bind_some, Option.bind_some, cs_0 hS, Option.bind_some, Option.bind_some]
  have e1 : (zi a < zi 0) = (a < 0) := propext (zi_lt x1 x2 (by omega) (by omega))
  have e2 : (zi a < zi P.1) = (a < P.1) := propext (zi_lt x1 x2 (by omega) (by omega))
  simp only [e1, e2]
  refine ⟨fun h => ?_, fun h => ?_⟩
  · rw [if_neg (by omega), if_pos h.2, if_neg (by omega), if_pos h.2]
    exact ⟨rfl, rfl⟩
  · by_cases k : a < 0
    · rw [if_pos k]
    · rw [if_neg k, if_neg (by omega)]
theorem cq_needSink {a : Int} (hR : CR σ X w P nm sv sz q tx er ea ou) (hx : zin a) : (0 ≤ a ∧ a < P.2.1 → fX9_needSink σ X (zi a) = some σ ∧ tX9_needSink σ X (zi a) = none) ∧ (¬ (0 ≤ a ∧ a < P.2.1) → tX9_needSink σ X (zi a) = some 1) := by
  obtain ⟨x1, x2⟩ := hx
  have hS := hR.2.2.2.1.1
  have hP4 := hR.2.2.2.1.2.2.2.2.2.1
  unfold fX9_needSink tX9_needSink
  rw [cx_set hR, Option.bind_some, Option.bind_some, cs_1 hS, Option.bind_some, Option.bind_some]
  have e1 : (zi a < zi 0) = (a < 0) := propext (zi_lt x1 x2 (by omega) (by omega))
  have e2 : (zi a < zi P.2.1) = (a < P.2.1) := propext (zi_lt x1 x2 (by omega) (by omega))
  simp only [e1, e2]
  refine ⟨fun h => ?_, fun h => ?_⟩
  · rw [if_neg (by omega), if_pos h.2, if_neg (by omega), if_pos h.2]
    exact ⟨rfl, rfl⟩
  · by_cases k : a < 0
    · rw [if_pos k]
    · rw [if_neg k, if_neg (by omega)]
theorem cq_needInst {a : Int} (hc : csh σ X) (h : CN σ X w V b P M) (hx : zin a) : (0 ≤ a ∧ a < qmany M → fX9_needInstance σ X (zi a) = some σ ∧ tX9_needInstance σ X (zi a) = none) ∧ (¬ (0 ≤ a ∧ a < qmany M) → tX9_needInstance σ X (zi a) = some 1) := by
  obtain ⟨x1, x2⟩ := hx
  have h4 := qN_many h.2.2.1.1.2.1
  unfold fX9_needInstance tX9_needInstance
  rw [cx_now hc, Option.bind_some, Option.bind_some, CN_many h, Option.bind_some, Option.bind_some]
  have e1 : (zi a < zi 0) = (a < 0) := propext (zi_lt x1 x2 (by omega) (by omega))
  have e2 : (zi a < zi (qmany M)) = (a < qmany M) := propext (zi_lt x1 x2 (by omega) (by omega))
  simp only [e1, e2]
  refine ⟨fun h => ?_, fun h => ?_⟩
  · rw [if_neg (by omega), if_pos h.2, if_neg (by omega), if_pos h.2]
    exact ⟨rfl, rfl⟩
  · by_cases k : a < 0
    · rw [if_pos k]
    · rw [if_neg k, if_neg (by omega)]
theorem cq_needKey {τ : zS} {a : Int} (hx : zin a) : (0 ≤ a ∧ a < 16 → fX9_needKey τ (zi a) = some τ ∧ tX9_needKey τ (zi a) = none) ∧ (¬ (0 ≤ a ∧ a < 16) → tX9_needKey τ (zi a) = some 2) := by
  obtain ⟨x1, x2⟩ := hx
  unfold fX9_needKey tX9_needKey
  have e1 : (zi a < zi 0) = (a < 0) := propext (zi_lt x1 x2 (by omega) (by omega))
  have e2 : (zi a < zi 16) = (a < 16) := propext (zi_lt x1 x2 (by omega) (by omega))
  simp only [e1, e2]
  refine ⟨fun h => ?_, fun h => ?_⟩
  · rw [if_neg (by omega), if_pos h.2, if_neg (by omega), if_pos h.2]
    exact ⟨rfl, rfl⟩
  · by_cases k : a < 0
    · rw [if_pos k]
    · rw [if_neg k, if_neg (by omega)]
theorem cq_needTicks {τ : zS} {a : Int} (hx : zin a) : (aTicks a = true → fX9_needTicks τ (zi a) = some τ ∧ tX9_needTicks τ (zi a) = none) ∧ (aTicks a = false → tX9_needTicks τ (zi a) = some 2) := by
  obtain ⟨x1, x2⟩ := hx
  unfold fX9_needTicks tX9_needTicks aTicks
  have e1 : (zi a < zi 1) = (a < 1) := propext (zi_lt x1 x2 (by omega) (by omega))
  have e2 : (zi a ≤ zi 500) = (a ≤ 500) := propext (zi_le x1 x2 (by omega) (by omega))
  simp only [e1, e2, decide_eq_true_iff, decide_eq_false_iff_not]
  refine ⟨fun h => ?_, fun h => ?_⟩
  · rw [if_neg (by omega), if_pos h.2, if_neg (by omega), if_pos h.2]
    exact ⟨rfl, rfl⟩
  · by_cases k : a < 1
    · rw [if_pos k]
    · rw [if_neg k, if_neg (by omega)]
end CQ
