/-! The reference's parser: what is wanted, numbers. -/
def rfr (m : Nat) (σ τ : zS) : Prop := τ.1 = σ.1 ∧ τ.2.2.1 = σ.2.2.1 ∧ (∀ a, a ≠ m + 13 → τ.2.2.2 a = σ.2.2.2 a) ∧ (∀ a, a ≠ m → a ≠ m + 5 → a ≠ m + 11 → a ≠ m + 12 → τ.2.1 a = σ.2.1 a) ∧ ∀ j, (j < 17 ∨ 26 < j) → τ.2.1 m j = σ.2.1 m j
def pfi (D : pD) (k : Nat) : Int := if k = 1 then pse0 D 4 else if k = 2 then pse0 D 6 else if k = 3 then pse0 D 7 else if k = 4 then (if pse0 D 8 = 1 then 1 else 0) else if 9 ≤ k ∧ k < 13 then (D.2.2.2.1 (k - 9) : Nat) else if 37 ≤ k ∧ k < 43 then -1 else 0
def RD (τ : zS) (m : Nat) (D : pD) (K : Nat) : Prop := (D.1 ≤ 4 ∧ τ.2.1 m 24 = zi D.1) ∧ τ.2.1 m 25 = zi (pse0 D 5) ∧ τ.2.1 m 26 = zi K ∧ (∀ k, k < 33894 → τ.2.1 (m + 5) k = zi (pfi D k)) ∧ ∀ s, s < D.1 → τ.2.1 (m + 11) s = zi (D.2.1 s) ∧ τ.2.1 (m + 12) s = zi (D.2.2.1 s) ∧ τ.2.2.2 (m + 13) s = Int64.ofInt (qname (D.2.2.2.2.1 s))
def RG (m : Nat) (tx : List Int32) (σ : zS) (D : pD) (K p : Nat) (τ : zS) : Prop := rfr m σ τ ∧ (τ.2.1 m 22 = zi 0 ∧ τ.2.1 m 23 = zi (-1)) ∧ RT τ m tx p ∧ RD τ m D K ∧ p ≤ tx.length
def RB (m : Nat) (σ : zS) (e : Nat × Nat) (τ : zS) : Prop := rfr m σ τ ∧ (τ.2.1 m 22 = zi e.1 ∧ τ.2.1 m 23 = zi e.2) ∧ 1 ≤ e.1 ∧ e.1 ≤ 5
section QC
variable {σ τ υ : zS} {m p k w K : Nat} {tx : List Int32} {D : pD} {e : Nat × Nat}
theorem rfr_refl : rfr m σ σ := ⟨rfl, rfl, fun _ _ => rfl, fun _ _ _ _ _ => rfl, fun _ _ => rfl⟩
theorem rfr_trans (h : rfr m σ τ) (g : rfr m τ υ) : rfr m σ υ := ⟨g.1.trans h.1, g.2.1.trans h.2.1, fun a a1 => (g.2.2.1 a a1).trans (h.2.2.1 a a1), fun a a1 a2 a3 a4 => (g.2.2.2.1 a a1 a2 a3 a4).trans (h.2.2.2.1 a a1 a2 a3 a4), fun j j1 => (g.2.2.2.2 j j1).trans (h.2.2.2.2 j j1)⟩
theorem rfr_T (h : rfT m σ τ) : rfr m σ τ := ⟨h.1, by rw [h.2.1], fun a _ => by rw [h.2.1], fun a a1 _ _ _ => h.2.2.1 a a1, fun j hj => h.2.2.2 j (by omega)⟩
theorem rfr_I {j : Nat} {v : Int32} (h1 : 17 ≤ j) (h2 : j ≤ 26) : rfr m σ (zuI σ m j v) := ⟨rfl, rfl, fun _ _ => rfl, fun a a1 _ _ _ => zu_off _ _ _ a1, fun i hi => by rw [zuI_rd, if_neg (by omega)]⟩
theorem rfr_R {a j : Nat} {v : Int32} (ha : a = m + 5 ∨ a = m + 11 ∨ a = m + 12) : rfr m σ (zuI σ a j v) := ⟨rfl, rfl, fun _ _ => rfl, fun b a1 a2 a3 a4 => zu_off _ _ _ (by omega), fun i hi => by rw [zuI_row, if_neg (by omega)]⟩
theorem rfr_J {j : Nat} {v : Int64} : rfr m σ (zuJ σ (m + 13) j v) := ⟨rfl, rfl, fun b hb => zu_off _ _ _ hb, fun _ _ _ _ _ => rfl, fun _ _ => rfl⟩
theorem RSh_r (h : RSh σ m tx) (e : rfr m σ τ) : RSh τ m tx := by
  obtain ⟨a1, a2, a3⟩ := h
  refine ⟨rsh_fr a1 e.1 e.2.1, ?_, a3⟩
  rw [e.2.2.2.2 16 (by omega), e.2.2.2.1 (m + 10) (by omega) (by omega) (by omega) (by omega)]
  exact a2
theorem RD_T (h : RD τ m D K) (e : rfT m τ υ) : RD υ m D K := by
  unfold RD
  rw [e.2.2.2 24 (by omega), e.2.2.2 25 (by omega), e.2.2.2 26 (by omega), e.2.2.1 (m + 5) (by omega), e.2.2.1 (m + 11) (by omega), e.2.2.1 (m + 12) (by omega), e.2.1]
  exact h
theorem rc_fine (h : RSh τ m tx) {x : Int} (hx : τ.2.1 m 22 = zi x) (h1 : 0 ≤ x) (h2 : x ≤ 5) : fX10_fine τ m = some (τ, zb (decide (x = 0))) := by
  unfold fX10_fine
  rw [rg_i h.1, Option.bind_some, hx]
  by_cases e : x = 0
  · rw [if_pos (by rw [e]), decide_eq_true e]
    exact zrZ1
  · rw [if_neg (by rw [zi_eq (by omega) (by omega) (by omega) (by omega)]; exact e), decide_eq_false e]
    exact zrZ0
theorem rb_fine (h : RSh σ m tx) (g : RB m σ e τ) : fX10_fine τ m = some (τ, zi 0) := by
  have := g.2.2
  rw [rc_fine (RSh_r h g.1) g.2.1.1 (by omega) (by omega), decide_eq_false (by omega)]
  rfl
theorem rg_fine (h : RSh σ m tx) (g : RG m tx σ D K p τ) : fX10_fine τ m = some (τ, zi 1) := by
  rw [rc_fine (x := 0) (RSh_r h g.1) g.2.1.1 (by omega) (by omega)]
  rfl
theorem rb_needs {x c : Int32} (h : RSh σ m tx) (g : RB m σ e τ) : fX10_needs τ m x c = some τ := by
  have := g.2.2
  unfold fX10_needs
  rw [rg_i (RSh_r h g.1).1, Option.bind_some, g.2.1.1, if_neg (by rw [zi_eq (by omega) (by omega) (by omega) (by omega)]; omega)]
theorem rg_needs1 {c : Int32} (h : RSh σ m tx) (g : RG m tx σ D K p τ) : fX10_needs τ m (zi 1) c = some τ := by
  unfold fX10_needs
  rw [rg_i (RSh_r h g.1).1, Option.bind_some, g.2.1.1, if_pos rfl, if_neg z10]
theorem rg_needs0 {c : Nat} (h : RSh σ m tx) (g : RG m tx σ D K p τ) (h1 : 1 ≤ c) (h2 : c ≤ 5) : ∃ υ, fX10_needs τ m (zi 0) (zi c) = some υ ∧ RB m σ (c, pF tx p) υ := by
  have hs := RSh_r h g.1
  refine ⟨zuI (zuI τ m 22 (zi c)) m 23 (zi (pF tx p)), ?_, rfr_trans g.1 (rfr_trans (rfr_I (by omega) (by omega)) (rfr_I (by omega) (by omega))), ⟨?_, ?_⟩, h1, h2⟩
  · unfold fX10_needs
    rw [rg_i hs.1, Option.bind_some, g.2.1.1, if_pos rfl, if_pos rfl, rp_i hs.1, Option.bind_some, rg_i (rsh_uI hs.1), Option.bind_some, zuI_rd, if_neg (by omega), g.2.2.1.2.1, rp_i (rsh_uI hs.1)]
    rfl
  · rw [zuI_rd, if_neg (by omega), zuI_rd, if_pos rfl]
  · rw [zuI_rd, if_pos rfl]
theorem rb_goOn (h : RSh σ m tx) (g : RB m σ e τ) : fX10_goOn τ m = some τ := by
  unfold fX10_goOn
  rw [rb_fine h g, rck9 (RSh_r h g.1), Option.bind_some]
  exact if_pos rfl
theorem rg_goOn (h : RSh σ m tx) (g : RG m tx σ D K p τ) : ∃ υ, fX10_goOn τ m = some υ ∧ RG m tx σ D K (pT tx p) υ ∧ rfT m τ υ := by
  have hs := RSh_r h g.1
  have b2 := (pT_in g.2.2.2.2).2.1
  obtain ⟨υ, e1, e2, e3⟩ := rb_next hs g.2.2.1.1 b2
  refine ⟨υ, ?_, ⟨rfr_trans g.1 (rfr_T e2), ?_, e3, RD_T g.2.2.2.1 e2, b2⟩, e2⟩
  · unfold fX10_goOn
    rw [rg_fine h g, rck9 hs, Option.bind_some]
    dsimp only
    rw [if_neg z10, rck9 hs, e1, Option.bind_some]
  · rw [e2.2.2.2 22 (by omega), e2.2.2.2 23 (by omega)]
    exact g.2.1
theorem rb_isWord {r : Int32} (h : RSh σ m tx) (g : RB m σ e τ) : fX10_isWord τ m r = some (τ, zi 0) := by
  unfold fX10_isWord
  rw [rb_fine h g, rck9 (RSh_r h g.1), Option.bind_some]
  dsimp only
  rw [if_pos rfl, zrZ0]
theorem rtk_1 : rtk tx p = 1 ↔ pK tx p = 1 := by
  unfold rtk
  split <;> omega
theorem rtk_3 : rtk tx p = 3 ↔ pK tx p = 3 := by
  unfold rtk
  split <;> omega
theorem rtk_2 : rtk tx p = 2 ↔ pK tx p = 2 ∧ pT tx p - pF tx p ≤ 3 := by
  unfold rtk
  split <;> omega
theorem rtk_0 : rtk tx p = 0 ↔ pK tx p = 0 := by
  unfold rtk
  split <;> omega
theorem rtk_le : rtk tx p ≤ 4 := by
  have := ppk_le (tx := tx) (p := pF tx p)
  unfold rtk pK
  split <;> omega
theorem rwd_le {o : Option Nat} : -1 ≤ rwd o ∧ rwd o < 9 := by
  unfold rwd
  cases o with
  | none => constructor <;> dsimp only <;> omega
  | some w => constructor <;> dsimp only <;> omega
theorem rwd_w {o : Option Nat} (ho : ∀ v, o = some v → v < 9) (hw : w < 9) : rwd o = ((w + 5) % 9 : Nat) ↔ o = some w := by
  unfold rwd
  cases o with
  | none => exact ⟨fun q => by dsimp only at q; omega, fun q => by cases q⟩
  | some v =>
    have := ho v rfl
    refine ⟨fun q => ?_, fun q => by cases q; rfl⟩
    dsimp only at q
    rw [show v = w by omega]
theorem rg_isWord (h : RSh σ m tx) (g : RG m tx σ D K p τ) (hw : w < 9) : fX10_isWord τ m (zi ((w + 5) % 9 : Nat)) = some (τ, zb (decide (pW tx p = some w))) := by
  have hs := RSh_r h g.1
  have hl := rtk_le (tx := tx) (p := p)
  have hr := rwd_le (o := pW tx p)
  unfold fX10_isWord
  rw [rg_fine h g, rck9 hs, Option.bind_some]
  dsimp only
  rw [if_neg z10, rg_i hs.1, Option.bind_some, g.2.2.1.2.2.1]
  by_cases k1 : pK tx p = 1
  · rw [if_pos (show zi (rtk tx p) = zi 1 by rw [rtk_1.2 k1]; rfl), rg_i hs.1, Option.bind_some, g.2.2.1.2.2.2.1 k1]
    have hi := rwd_w (o := pW tx p) (fun v hv => pW_lt hv) hw
    by_cases e : pW tx p = some w
    · rw [if_pos (by rw [hi.2 e]), decide_eq_true e]
      exact zrZ1
    · rw [if_neg (by rw [zi_eq (by omega) (by omega) (by omega) (by omega)]; exact fun q => e (hi.1 q)), decide_eq_false e]
      exact zrZ0
  · rw [if_neg (show ¬ zi (rtk tx p) = zi 1 by rw [zi_eq (by omega) (by omega) (by omega) (by omega)]; have := rtk_1 (tx := tx) (p := p); omega), decide_eq_false (fun q => k1 (pW_K q))]
    exact zrZ0
/-- a number that the text tells -/
theorem rg_number (h : RSh σ m tx) (g : RG m tx σ D K p τ) (hw : w < 9) : ∃ υ v, fX10_number τ m (zi (plo w)) (zi (pup w)) = some (υ, v) ∧ match pnb tx w p with | .inl e => RB m σ e υ | .inr a => RG m tx σ D K a.2 υ ∧ rfT m τ υ ∧ v = zi a.1 := by
  have hs := RSh_r h g.1
  have hl := rtk_le (tx := tx) (p := p)
  obtain ⟨c1, c2, c3, c4, c5, c6⟩ := plo_t w hw
  have bad : ∀ (υ : zS) (e : Nat × Nat), RB m σ e υ → ∃ v, jX10_number_42 υ m = some (υ, v) := fun υ e gb => by
    refine ⟨υ.2.1 m 21, ?_⟩
    unfold jX10_number_42
    rw [rg_i (RSh_r h gb.1).1, Option.bind_some, rb_goOn h gb, rck9 (RSh_r h gb.1), Option.bind_some]
  unfold fX10_number jX10_number_14
  rw [rg_i hs.1, Option.bind_some, g.2.2.1.2.2.1]
  by_cases k2 : pK tx p = 2 ∧ pT tx p - pF tx p ≤ 3
  · rw [if_pos (show zi (rtk tx p) = zi 2 by rw [rtk_2.2 k2]; rfl), rck9 hs, rg_needs1 h g, Option.bind_some, rck9 hs, rg_fine h g, Option.bind_some]
    dsimp only
    have hv := g.2.2.1.2.2.2.2 k2.1 k2.2
    obtain ⟨n1, n2⟩ := pnum_1000 k2.1 k2.2 (Nat.le_refl _)
    rw [if_neg z10, rg_i hs.1, Option.bind_some, hv, f_in (a := pnum tx (pF tx p) (pT tx p - pF tx p)) (l := plo w) (h := pup w) (l_zi ⟨by omega, by omega⟩) (l_zi ⟨by omega, by omega⟩) (l_zi ⟨by omega, by omega⟩), Option.bind_some]
    dsimp only
    unfold pnb
    rw [if_pos k2, rck9 hs]
    by_cases e : plo w ≤ pnum tx (pF tx p) (pT tx p - pF tx p) ∧ pnum tx (pF tx p) (pT tx p - pF tx p) ≤ pup w
    · rw [if_pos e, decide_eq_true e, show fX10_needs τ m (zb true) (zi 2) = some τ from rg_needs1 h g, Option.bind_some]
      obtain ⟨υ, e1, e2, e3⟩ := rg_goOn h g
      refine ⟨υ, zi (pnum tx (pF tx p) (pT tx p - pF tx p)), ?_, e2, e3, ?_⟩
      · unfold jX10_number_42
        rw [rg_i hs.1, Option.bind_some, hv, rck9 hs, e1, Option.bind_some]
      · congr 1
        dsimp only
        omega
    · rw [if_neg e, decide_eq_false e]
      obtain ⟨υ, e1, e2⟩ := rg_needs0 (c := 2) h g (by omega) (by omega)
      obtain ⟨v, e3⟩ := bad υ _ e2
      rw [show fX10_needs τ m (zb false) (zi 2) = some υ from e1, Option.bind_some]
      exact ⟨υ, v, e3, e2⟩
  · rw [if_neg (show ¬ zi (rtk tx p) = zi 2 by rw [zi_eq (by omega) (by omega) (by omega) (by omega)]; have := rtk_2 (tx := tx) (p := p); omega), rck9 hs]
    unfold pnb
    rw [if_neg k2]
    obtain ⟨υ, e1, e2⟩ := rg_needs0 (c := 1) h g (by omega) (by omega)
    obtain ⟨v, e3⟩ := bad υ _ e2
    rw [show fX10_needs τ m (zi 0) (zi 1) = some υ from e1, Option.bind_some, rck9 (RSh_r h e2.1), rb_fine h e2, Option.bind_some]
    dsimp only
    rw [if_pos rfl]
    exact ⟨υ, v, e3, e2⟩
theorem rb_number {a b : Int32} (h : RSh σ m tx) (g : RB m σ e τ) : ∃ v, fX10_number τ m a b = some (τ, v) := by
  have hs := RSh_r h g.1
  have key : ∀ y, ∃ v, jX10_number_14 τ m a b y m = some (τ, v) := fun y => by
    refine ⟨τ.2.1 m 21, ?_⟩
    unfold jX10_number_14 jX10_number_42
    rw [rck9 hs, rb_needs h g, Option.bind_some, rck9 hs, rb_fine h g, Option.bind_some]
    dsimp only
    rw [if_pos rfl, rg_i hs.1, Option.bind_some, rck9 hs, rb_goOn h g, Option.bind_some]
  unfold fX10_number
  rw [rg_i hs.1, Option.bind_some]
  split <;> exact key _
/-- a word and the number behind it -/
def pwn (tx : List Int32) (w p : Nat) : (Nat × Nat) ⊕ (Nat × Nat) := pb (pwd tx w p) fun p2 => pnb tx w p2
theorem rg_behind (h : RSh σ m tx) (g : RG m tx σ D K p τ) (hw : w < 9) : ∃ υ v, fX10_numberBehind τ m (zi ((w + 5) % 9 : Nat)) (zi (plo w)) (zi (pup w)) = some (υ, v) ∧ match pwn tx w p with | .inl e => RB m σ e υ | .inr a => RG m tx σ D K a.2 υ ∧ rfT m τ υ ∧ v = zi a.1 := by
  have hs := RSh_r h g.1
  unfold fX10_numberBehind pwn pwd
  rw [rg_isWord h g hw, rck9 hs, Option.bind_some]
  dsimp only
  rw [rck9 hs]
  by_cases e : pW tx p = some w
  · rw [decide_eq_true e, show fX10_needs τ m (zb true) (zi 1) = some τ from rg_needs1 h g, Option.bind_some, if_pos e, rck9 hs]
    obtain ⟨s1, e1, g1, f1⟩ := rg_goOn h g
    obtain ⟨υ, v, e2, g2⟩ := rg_number h g1 hw
    rw [e1, Option.bind_some, rck9 (RSh_r h g1.1), e2, Option.bind_some]
    refine ⟨υ, v, rfl, ?_⟩
    unfold pb
    dsimp only
    cases hr : pnb tx w (pT tx p) with
    | inl x =>
      rw [hr] at g2
      exact g2
    | inr x =>
      rw [hr] at g2
      exact ⟨g2.1, rfT_trans f1 g2.2.1, g2.2.2⟩
  · rw [decide_eq_false e, if_neg e]
    obtain ⟨s1, e1, g1⟩ := rg_needs0 (c := 1) h g (by omega) (by omega)
    obtain ⟨v, e2⟩ := rb_number (a := zi (plo w)) (b := zi (pup w)) h g1
    rw [show fX10_needs τ m (zb false) (zi 1) = some s1 from e1, Option.bind_some, rck9 (RSh_r h g1.1), rb_goOn h g1, Option.bind_some, rck9 (RSh_r h g1.1), e2, Option.bind_some]
    exact ⟨s1, v, rfl, g1⟩
theorem rb_behind {a b c : Int32} (h : RSh σ m tx) (g : RB m σ e τ) : ∃ v, fX10_numberBehind τ m a b c = some (τ, v) := by
  have hs := RSh_r h g.1
  obtain ⟨v, e2⟩ := rb_number (a := b) (b := c) h g
  refine ⟨v, ?_⟩
  unfold fX10_numberBehind
  rw [rb_isWord h g, rck9 hs, Option.bind_some, rck9 hs, rb_needs h g, Option.bind_some, rck9 hs, rb_goOn h g, Option.bind_some, rck9 hs, e2, Option.bind_some]
end QC
