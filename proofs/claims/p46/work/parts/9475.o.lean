/-! What is shown is what an undisturbed run shows. -/
section EO
variable {σ : zS} {X A : Nat} {P : qP} {M : qM} {H : List qM} {S : Option qM} {z : Int} {g : Nat → Int32}
theorem rp_zeq {lo hi : Nat} (h : A < lo ∨ hi ≤ A) : zeq σ (rp σ A g) lo hi := fun a h1 h2 => ⟨rfl, by rw [rp_ne (by omega)], rfl, rfl⟩
theorem ev_once2 (h : LC z σ X P M H S) (hz : z < 700000000) (hA : X + 307 ≤ A) (hk : σ.1 A = (1, 16)) {j : Nat} (hj : j < P.2.1) (hg : ∀ k, k < 16 → g k = zi (qsn P M j 0 k : Nat)) :
    ∃ x, zloop (sL_isOnce_18 X A (zi j)) zfuel (rp σ A g, zi 0) = some x ∧ ∃ g2, x = .inr (rp σ A g2) ∧ ∀ k, k < 16 → g2 k = zi (qsn P M (j + 1) 0 k : Nat) := by
  obtain ⟨hI, hB, hJ⟩ := LC_I h
  have h2 := hI.1.1.2.2.2.1
  have hl := (qI_len hI (c := 28 + j) (by omega)).1
  refine zloop_run (step := sL_isOnce_18 X A (zi j)) (M.2.1 (28 + j)).length (fun i s => ∃ g1, s = (rp σ A g1, zi (i : Int)) ∧ ∀ k, k < 16 → g1 k = zi (qsn P M j i k : Nat)) (fun x => ∃ g2, x = .inr (rp σ A g2) ∧ ∀ k, k < 16 → g2 k = zi (qsn P M (j + 1) 0 k : Nat)) ?_ ?_ (fuel := zfuel) (by have : zfuel = 1000000 := rfl; omega) ⟨g, rfl, hg⟩
  · rintro i s hi ⟨g1, rfl, hg1⟩
    have hm : (M.2.1 (28 + j)).getD i 0 ∈ M.2.1 (28 + j) := by
      rw [List.getD_eq_getElem?_getD, List.getElem?_eq_getElem hi]
      exact List.getElem_mem hi
    obtain ⟨n8, k16, ks⟩ := qs_in hI hj hm
    have es := qs_shown hI hj hi
    have ea := qsn_at hI hj hi
    have eb := qsn_step hI hj hi
    have ec := qsn_le (i := i + 1) hI (Nat.le_of_lt hj) (qkey P ((M.2.1 (28 + j)).getD i 0))
    have hs0 := fun g9 : Nat → Int32 => lq_shown0 (LC_eq h (rp_zeq (g := g9) (σ := σ) (Or.inr hA))) hz hj hi
    have hs1 := fun g9 : Nat → Int32 => lq_shown1 (LC_eq h (rp_zeq (g := g9) (σ := σ) (Or.inr hA))) hz hj hi
    rw [← ea] at es
    generalize (M.2.1 (28 + j)).getD i 0 = n at hm n8 k16 ks es ea eb ec hs0 hs1
    have hq : 1 ≤ qsn P M j (i + 1) (qkey P n) := by
      rw [eb, if_pos rfl]
      omega
    refine Or.inl ⟨(rp σ A (qu g1 (qkey P n) (zi (qsn P M j (i + 1) (qkey P n) : Nat))), zi ((i + 1 : Nat) : Int)), ?_, _, rfl, fun k hk => ?_⟩
    · unfold sL_isOnce_18 sL_isOnce_18b
      dsimp only
      rw [lq_snk (LC_eq h (rp_zeq (σ := σ) (Or.inr hA))) hz hj, Option.bind_some]
      dsimp only
      rw [if_neg (zi_nle (by omega) (by omega) (by omega)), hs0, Option.bind_some]
      dsimp only
      rw [zaI_of (qkey P n) (show (rp σ A g1).1 A = (1, 16) from hk) rfl k16 (by omega), Option.bind_some, rp_at, zsI_of (qkey P n) (show (rp σ A g1).1 A = (1, 16) from hk) rfl k16 (by omega), Option.bind_some, rp_upd, hg1 _ k16, zi_add, show ((qsn P M j i (qkey P n) : Nat) : Int) + 1 = ((qsn P M j (i + 1) (qkey P n) : Nat) : Int) from by rw [eb, if_pos rfl]; omega, hs1, Option.bind_some]
      dsimp only
      rw [zaI_of (qkey P n) (show (rp σ A (qu g1 (qkey P n) (zi (qsn P M j (i + 1) (qkey P n) : Nat)))).1 A = (1, 16) from hk) rfl k16 (by omega), Option.bind_some, rp_at, qu_at, lq_exp (LC_eq h (rp_zeq (σ := σ) (Or.inr hA))) hz k16 hq (by omega), Option.bind_some]
      dsimp only
      rw [if_pos (by rw [es]), lq_c2 (LC_eq h (rp_zeq (σ := σ) (Or.inr hA))) hz, Option.bind_some]
      dsimp only
      have h1 := hI.1.1.2.2.1
      have hnz : znz (zi (P.2.1 : Nat)) = some () := if_neg (fun q => by
        have q2 : zi (P.2.1 : Nat) = zi 0 := q
        rw [zi_eq (by omega) (by omega) (by omega) (by omega)] at q2
        omega)
      rw [hnz, Option.bind_some, zi_div (by omega) (by omega) (by omega) (by omega), zi_mod (by omega) (by omega) (by omega) (by omega), if_pos (by
        rw [← ks]
        congr 1), zi_add]
      rfl
    · by_cases e : k = qkey P n
      · rw [e, qu_at]
      · rw [qu_ne e, hg1 k hk, eb k, if_neg e]
        rfl
  · rintro s ⟨g1, rfl, hg1⟩
    refine ⟨_, ?_, g1, rfl, fun k hk => by rw [hg1 k hk, qsn_next]⟩
    unfold sL_isOnce_18 sL_isOnce_18b
    dsimp only
    rw [lq_snk (LC_eq h (rp_zeq (σ := σ) (Or.inr hA))) hz hj, Option.bind_some]
    dsimp only
    rw [if_pos (zi_yle (by omega) (by omega) (by omega))]
theorem ev_once1 (h : LC z σ X P M H S) (hz : z < 700000000) (hA : X + 307 ≤ A) (hk : σ.1 A = (1, 16)) (hg : ∀ k, k < 16 → g k = zi 0) :
    ∃ x, zloop (sL_isOnce_7 X A) zfuel (rp σ A g, zi 0) = some x ∧ ∃ g2, x = .inr (rp σ A g2) ∧ ∀ k, k < 16 → g2 k = zi ((qf P k (M.2.1 (28 + qsk P k))).length : Nat) := by
  obtain ⟨hI, hB, hJ⟩ := LC_I h
  have h2 := hI.1.1.2.2.2.1
  refine zloop_run (step := sL_isOnce_7 X A) P.2.1 (fun j s => ∃ g1, s = (rp σ A g1, zi (j : Int)) ∧ ∀ k, k < 16 → g1 k = zi (qsn P M j 0 k : Nat)) (fun x => ∃ g2, x = .inr (rp σ A g2) ∧ ∀ k, k < 16 → g2 k = zi ((qf P k (M.2.1 (28 + qsk P k))).length : Nat)) ?_ ?_ (fuel := zfuel) (by have : zfuel = 1000000 := rfl; omega) ⟨g, rfl, fun k hk => by rw [hg k hk, qsn_0]; rfl⟩
  · rintro j s hj ⟨g1, rfl, hg1⟩
    obtain ⟨x, e, g2, rfl, hg2⟩ := ev_once2 h hz hA hk hj hg1
    refine Or.inl ⟨(rp σ A g2, zi ((j + 1 : Nat) : Int)), ?_, g2, rfl, hg2⟩
    unfold sL_isOnce_7 sL_isOnce_7b
    dsimp only
    rw [lq_c2 (LC_eq h (rp_zeq (σ := σ) (Or.inr hA))) hz, Option.bind_some]
    dsimp only
    rw [if_neg (zi_nle (by omega) (by omega) (by omega)), e, Option.bind_some]
    dsimp only
    rw [zi_add]
    rfl
  · rintro s ⟨g1, rfl, hg1⟩
    refine ⟨_, ?_, g1, rfl, fun k hk => by rw [hg1 k hk, qsn_end hI]⟩
    unfold sL_isOnce_7 sL_isOnce_7b
    dsimp only
    rw [lq_c2 (LC_eq h (rp_zeq (σ := σ) (Or.inr hA))) hz, Option.bind_some]
    dsimp only
    rw [if_pos (zi_yle (by omega) (by omega) (by omega))]
theorem ev_once3 (h : LC z σ X P M H S) (hz : z < 700000000) (hA : X + 307 ≤ A) (hk : σ.1 A = (1, 16)) (hg : ∀ k, k < 16 → g k = zi ((qf P k (M.2.1 (28 + qsk P k))).length : Nat)) :
    ∃ x, zloop (sL_isOnce_95 X A) zfuel (rp σ A g, zi 0) = some x ∧ x = .inr (rp σ A g) := by
  refine zloop_run (step := sL_isOnce_95 X A) 16 (fun k s => s = (rp σ A g, zi (k : Int))) (fun x => x = .inr (rp σ A g)) ?_ ?_ (fuel := zfuel) (by have : zfuel = 1000000 := rfl; omega) rfl
  · rintro k s hk16 rfl
    refine Or.inl ⟨_, ?_, rfl⟩
    unfold sL_isOnce_95 sL_isOnce_95b
    dsimp only
    rw [if_neg (zi_nle (by omega) (by omega) (by omega)), zaI_of k (show (rp σ A g).1 A = (1, 16) from hk) rfl hk16 (by omega), Option.bind_some, rp_at, lq_shownOf (LC_eq h (rp_zeq (σ := σ) (Or.inr hA))) hz hk16, Option.bind_some]
    dsimp only
    rw [if_pos (hg k hk16), zi_add]
    rfl
  · rintro s rfl
    refine ⟨_, ?_, rfl⟩
    unfold sL_isOnce_95 sL_isOnce_95b
    dsimp only
    rw [if_pos (by decide)]
/-- the whole check, its row being all 0 at first -/
theorem ev_once (h : LC z σ X P M H S) (hz : z < 700000000) (hA : X + 307 ≤ A) (hk : σ.1 A = (1, 16)) (h0 : ∀ k, k < 16 → σ.2.1 A k = zi 0) : ∃ g, jL_isOnce_5 σ X A = some (rp σ A g, zi 1) := by
  have e0 : rp σ A (σ.2.1 A) = σ := rp_self
  obtain ⟨x, e1, g1, rfl, hg1⟩ := ev_once1 (g := σ.2.1 A) h hz hA hk h0
  obtain ⟨x, e2, rfl⟩ := ev_once3 h hz hA hk hg1
  rw [e0] at e1
  refine ⟨g1, ?_⟩
  unfold jL_isOnce_5
  rw [e1, Option.bind_some]
  dsimp only
  rw [e2, Option.bind_some]
  exact zrZ_1 _
end EO
