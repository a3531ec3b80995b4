/-! Where a number of the reference lies in the flow's numbers. -/
def ri (k : Nat) : Nat :=
  if k < 43 then k else if k < 59 then 43 + (4 * ((k - 43) % 4) + (k - 43) / 4) else if k < 67 then 59 + (4 * ((k - 59) % 2) + (k - 59) / 2) else if k < 74 then k
  else if k < 90 then 74 + (4 * ((k - 74) % 4) + (k - 74) / 4) else if k < 98 then 90 + (4 * ((k - 90) % 2) + (k - 90) / 2) else k
theorem pS_ri (M : qM) (k : Nat) : pS M k = M.1 (ri k) - (if 37 ≤ k ∧ k < 43 then 1 else 0) := by
  unfold pS ri
  by_cases h1 : k < 37
  · rw [if_pos h1, if_pos (by omega), if_neg (by omega)]; omega
  · rw [if_neg h1]
    by_cases h2 : k < 43
    · rw [if_pos h2, if_pos h2, if_pos (by omega)]
    · rw [if_neg h2, if_neg h2, if_neg (show ¬ (37 ≤ k ∧ k < 43) from by omega)]
      repeat' split
      all_goals omega
theorem ri_inj0 : (List.range 144).all (fun j => (List.range 144).all (fun k => !(ri j == ri k) || j == k)) = true := by decide +kernel
theorem ri_inj {j k : Nat} (hj : j < 144) (hk : k < 144) (h : ri j = ri k) : j = k := by
  have := List.all_eq_true.mp (List.all_eq_true.mp ri_inj0 j (List.mem_range.mpr hj)) k (List.mem_range.mpr hk)
  simpa [h] using this
theorem pS_qu {M : qM} {N : qM} {k0 : Nat} {v : Int} (h0 : k0 < 144) (hN : N.1 = qu M.1 (ri k0) (v + (if 37 ≤ k0 ∧ k0 < 43 then 1 else 0))) : ∀ k, k < 144 → qu (pS M) k0 v k = pS N k := by
  intro k hk
  rw [pS_ri N, hN]
  by_cases e : k = k0
  · subst e; rw [qu_at, qu_at]; omega
  · rw [qu_ne e, qu_ne (fun q => e (ri_inj hk h0 q)), pS_ri]
theorem ri_ai {s i : Nat} (hs : s < 4) (hi : i < 4) : ri (74 + (4 * s + i)) = 74 + (4 * i + s) := by
  unfold ri
  rw [if_neg (by omega), if_neg (by omega), if_neg (by omega), if_neg (by omega), if_pos (by omega)]
  omega
theorem ri_ao {k i : Nat} (hk : k < 2) (hi : i < 4) : ri (90 + (2 * i + k)) = 74 + (4 * (4 + k) + i) := by
  unfold ri
  rw [if_neg (by omega), if_neg (by omega), if_neg (by omega), if_neg (by omega), if_neg (by omega), if_pos (by omega)]
  omega
theorem ri_bi {s i : Nat} (hs : s < 4) (hi : i < 4) : ri (43 + (4 * s + i)) = 43 + (4 * i + s) := by
  unfold ri
  rw [if_neg (by omega), if_pos (by omega)]
  omega
theorem ri_bo {k i : Nat} (hk : k < 2) (hi : i < 4) : ri (59 + (2 * i + k)) = 43 + (4 * (4 + k) + i) := by
  unfold ri
  rw [if_neg (by omega), if_neg (by omega), if_pos (by omega)]
  omega
theorem ri_lo {k : Nat} (h : k < 43 ∨ 67 ≤ k ∧ k < 74 ∨ 98 ≤ k) : ri k = k := by
  unfold ri
  rcases h with h | h | h
  · rw [if_pos h]
  · rw [if_neg (by omega), if_neg (by omega), if_neg (by omega), if_pos h.2]
  · rw [if_neg (by omega), if_neg (by omega), if_neg (by omega), if_neg (by omega), if_neg (by omega), if_neg (by omega)]
section RT
variable {σ : zS} {m : Nat} {A : Nat → Int32} {S : Nat → Int} {R : Nat → List Int} {P : qP} {M : qM}
/-- one number is written -/
theorem RM_set {k0 j : Nat} {v w : Int} (hA : RM A P M) (h0 : k0 < 144) (hj : ri k0 = j) (hw : w = v + (if 37 ≤ k0 ∧ k0 < 43 then 1 else 0)) : RM (qu A k0 (zi v)) P (qu M.1 j w, M.2) := by
  subst hw
  exact RA_congr (RA_S hA h0) (pS_qu h0 (by rw [hj])) (fun c _ => (pR_same rfl (fun _ => rfl)).symm)
theorem ra_keep {c : Nat} (h : rsh σ m) (hA : RM A P M) (hc : c < 24) (hp : rpos ((M.2.1 c).map (qen P c))) (hb : 0 ≤ M.2.2 c ∧ M.2.2 c ≤ (M.2.1 c).length) (hl : (M.2.1 (30 + c)).length + (M.2.2 c).toNat ≤ rcap (30 + c)) :
    ∃ B, fX10_keepsAhead (rput σ m A) m (zi (rb c)) (zi (rb (30 + c))) = some (rput σ m B) ∧ RM B P (M.1, qu M.2.1 (30 + c) (M.2.1 (30 + c) ++ (M.2.1 c).take (M.2.2 c).toNat), qu M.2.2 c (-1)) := by
  have hlm : ((M.2.1 c).map (qen P c)).length = (M.2.1 c).length := List.length_map ..
  have e1 := pR_ch (P := P) (M := M) hc
  have e2 : pR P M (30 + c) = (M.2.1 (30 + c)).map (qen P c) := by
    rw [pR_ls (by omega)]
    unfold qch
    rw [if_neg (by omega), if_pos (by omega), show 30 + c - 30 = c from by omega]
  have hwi : rwi (M.2.2 c) ((M.2.1 c).map (qen P c)).length := Or.inr (by rw [hlm]; exact hb)
  obtain ⟨B, e, hB⟩ := ra_keepsAhead c (30 + c) (M.2.2 c).toNat h hA rfl rfl (by omega) (by omega) (by omega) (by rw [e1]; exact qins_rok hp) (by
    rw [e1]
    have := qins_first hp hwi
    rw [show M.2.2 c = (((M.2.2 c).toNat : Nat) : Int) from by omega] at this
    rw [show M.2.2 c = (((M.2.2 c).toNat : Nat) : Int) from by omega]
    simpa using this) (by rw [e1, qins_len hwi, hlm, if_neg (by omega)]; omega) (by rw [e2, List.length_map]; exact hl)
  refine ⟨B, e, RA_congr hB (fun _ _ => rfl) (fun d hd => ?_)⟩
  by_cases d1 : d = c
  · subst d1
    rw [qu_at, e1, qins_erase hb.1 (by rw [hlm]; exact hb.2), pR_ch hc]
    dsimp only
    rw [qu_at, qu_ne (by omega), qins_none]
  · rw [qu_ne d1]
    by_cases d2 : d = 30 + c
    · subst d2
      rw [qu_at, e1, e2, qins_take hb.1 (by rw [hlm]; exact hb.2), pR_ls (by omega)]
      dsimp only
      rw [qu_at, List.map_append, List.map_take]
      unfold qch
      rw [if_neg (by omega), if_pos (by omega), show 30 + c - 30 = c from by omega]
    · rw [qu_ne d2]
      refine Eq.symm (pR_same (M := M) ?_ (fun _ => ?_))
      · exact qu_ne d2
      · exact qu_ne d1
end RT
