/-! The reference's parser: statements. -/
theorem pbit : ∀ K : Fin 32, ∀ w : Fin 5, (((zi K.val >>> ((zi w.val) &&& 31)) &&& zi 1 = zi 0) ↔ ¬ K.val / 2 ^ w.val % 2 = 1) ∧ (¬ K.val / 2 ^ w.val % 2 = 1 → zi K.val ||| ((zi 1) <<< ((zi w.val) &&& 31)) = zi ((K.val + 2 ^ w.val : Nat) : Int) ∧ K.val + 2 ^ w.val < 32 ∧ ∀ v : Fin 5, ((K.val + 2 ^ w.val) / 2 ^ v.val % 2 = 1 ↔ (v = w ∨ K.val / 2 ^ v.val % 2 = 1))) := by decide
def pmk (D : pD) (K : Nat) : Prop := K < 32 ∧ ∀ w, w < 5 → (K / 2 ^ w % 2 = 1 ↔ D.2.2.2.2.2 w ≠ none)
section QE
variable {σ τ υ : zS} {m p k w K : Nat} {tx : List Int32} {D : pD} {e : Nat × Nat}
theorem rb_163 {a b c y : Int32} (h : RSh σ m tx) (g : RB m σ e τ) : jX10_readsSource_163 τ m a b c y = some τ := by
  unfold jX10_readsSource_163
  rw [rb_fine h g, rck9 (RSh_r h g.1), Option.bind_some]
  exact if_pos rfl
theorem rb_115 {a : Int32} (h : RSh σ m tx) (g : RB m σ e τ) : jX10_readsSource_115 τ m a = some τ := by
  have hs := RSh_r h g.1
  obtain ⟨v1, e1⟩ := rb_behind (a := zi 6) (b := zi 0) (c := zi 200) h g
  obtain ⟨v2, e2⟩ := rb_behind (a := zi 7) (b := zi 0) (c := zi 999) h g
  unfold jX10_readsSource_115
  rw [rb_goOn h g, rck9 hs, Option.bind_some, rck9 hs, e1, Option.bind_some]
  dsimp only
  rw [rck9 hs, e2, Option.bind_some]
  dsimp only
  rw [rck9 hs, rb_isWord h g, Option.bind_some]
  dsimp only
  rw [if_pos rfl]
  exact rb_163 h g
theorem rb_60 {a y : Int32} (h : RSh σ m tx) (g : RB m σ e τ) : jX10_readsSource_60 τ m a y m = some τ := by
  have hs := RSh_r h g.1
  unfold jX10_readsSource_60
  rw [rb_needs h g, rck9 hs, Option.bind_some, rck9 hs, rb_fine h g, Option.bind_some]
  exact if_pos rfl
theorem rsh_29 (h : rsh τ m) : zgR 9 29 τ m = some (m + 13) := (if_pos h.1).trans h.2.1.2.2.2.2.2.2.2.2.2.2.2.2.1
theorem rsh_27 (h : rsh τ m) : zgR 9 27 τ m = some (m + 11) := (if_pos h.1).trans h.2.1.2.2.2.2.2.2.2.2.2.2.1
theorem rsh_28 (h : rsh τ m) : zgR 9 28 τ m = some (m + 12) := (if_pos h.1).trans h.2.1.2.2.2.2.2.2.2.2.2.2.2.1
theorem rsh_7 (h : rsh τ m) : zgR 9 7 τ m = some (m + 5) := (if_pos h.1).trans h.2.1.2.2.2.2.1
theorem rsk_13 (h : rsh τ m) : τ.1 (m + 13) = (3, 4) := h.2.2.2.2.2.2.2.2.2.2.2.2.2.2.1
theorem rsk_11 (h : rsh τ m) : τ.1 (m + 11) = (1, 4) := h.2.2.2.2.2.2.2.2.2.2.2.2.1
theorem rsk_12 (h : rsh τ m) : τ.1 (m + 12) = (1, 4) := h.2.2.2.2.2.2.2.2.2.2.2.2.2.1
theorem rsk_5 (h : rsh τ m) : τ.1 (m + 5) = (1, 33894) := h.2.2.2.2.2.2.1
/-- the source's numbers are laid down -/
theorem rg_163 {v s l : Nat} {nm : List Int32} (h : RSh σ m tx) (g : RG m tx σ D K p τ) (h4 : D.1 < 4) (hn : τ.2.2.2 (m + 13) D.1 = Int64.ofInt (qname nm)) : ∃ υ, jX10_readsSource_163 τ m (zi D.1) (zi v) (zi s) (zi l) = some υ ∧ RG m tx σ (pput D v s l nm) K p υ := by
  obtain ⟨g1, g2, g3, ⟨⟨d1, d2⟩, d3, d4, d5, d6⟩, g5⟩ := id g
  have hs := RSh_r h g1
  have s1 : rsh (zuI τ (m + 11) D.1 (zi v)) m := rsh_uI hs.1
  have s2 : rsh (zuI (zuI τ (m + 11) D.1 (zi v)) (m + 12) D.1 (zi s)) m := rsh_uI s1
  have s3 : rsh (zuI (zuI (zuI τ (m + 11) D.1 (zi v)) (m + 12) D.1 (zi s)) (m + 5) (9 + D.1) (zi l)) m := rsh_uI s2
  have q : ∀ i, i ≠ 24 → (zuI (zuI (zuI (zuI τ (m + 11) D.1 (zi v)) (m + 12) D.1 (zi s)) (m + 5) (9 + D.1) (zi l)) m 24 (zi ((D.1 + 1 : Nat) : Int))).2.1 m i = τ.2.1 m i := fun i hi => by
    rw [zuI_row, if_neg (by omega), zuI_row, if_neg (by omega), zuI_row, if_neg (by omega), zuI_row, if_neg (by omega)]
  refine ⟨zuI (zuI (zuI (zuI τ (m + 11) D.1 (zi v)) (m + 12) D.1 (zi s)) (m + 5) (9 + D.1) (zi l)) m 24 (zi ((D.1 + 1 : Nat) : Int)), ?_, rfr_trans g1 (rfr_trans (rfr_R (by omega)) (rfr_trans (rfr_R (by omega)) (rfr_trans (rfr_R (by omega)) (rfr_I (by omega) (by omega))))), by rw [q 22 (by omega), q 23 (by omega)]; exact g2, ?_, ⟨⟨by show D.1 + 1 ≤ 4; omega, by rw [zuI_row, if_pos ⟨rfl, rfl⟩]; rfl⟩, by rw [q 25 (by omega)]; exact d3, by rw [q 26 (by omega)]; exact d4, fun k hk => ?_, fun i hi => ⟨?_, ?_, ?_⟩⟩, g5⟩
  · unfold jX10_readsSource_163
    rw [rg_fine h g, rck9 hs, Option.bind_some]
    dsimp only
    rw [if_neg z10, rsh_27 hs.1, Option.bind_some, zsI_of D.1 (rsk_11 hs.1) rfl h4 (by decide), Option.bind_some, rsh_28 s1, Option.bind_some, zsI_of D.1 (rsk_12 s1) rfl h4 (by decide), Option.bind_some, rsh_7 s2, Option.bind_some, zi_add, zsI_of (9 + D.1) (rsk_5 s2) (by omega) (by omega) (by decide), Option.bind_some, zi_add, rp_i s3]
    rfl
  · unfold RT
    rw [q 17 (by omega), q 18 (by omega), q 19 (by omega), q 20 (by omega), q 21 (by omega)]
    exact g3
  · rw [zuI_row, if_neg (by omega), zuI_row]
    have := d5 k hk
    by_cases ek : k = 9 + D.1
    · subst ek
      rw [if_pos ⟨rfl, rfl⟩]
      unfold pfi
      rw [if_neg (by omega), if_neg (by omega), if_neg (by omega), if_neg (by omega), if_pos (by omega)]
      show _ = zi ((qu D.2.2.2.1 D.1 l (9 + D.1 - 9) : Nat) : Int)
      rw [show 9 + D.1 - 9 = D.1 by omega, qu_at]
    · rw [if_neg (fun q2 => ek q2.2), zuI_row, if_neg (by omega), zuI_row, if_neg (by omega), this]
      congr 1
      unfold pfi
      by_cases e1 : 9 ≤ k ∧ k < 13
      · rw [if_neg (by omega), if_neg (by omega), if_neg (by omega), if_neg (by omega), if_pos e1, if_neg (by omega), if_neg (by omega), if_neg (by omega), if_neg (by omega), if_pos e1]
        show _ = ((qu D.2.2.2.1 D.1 l (k - 9) : Nat) : Int)
        rw [qu_ne (by omega)]
      · rw [if_neg e1, if_neg e1]
        rfl
  · have hi2 : i < D.1 + 1 := hi
    rw [zuI_row, if_neg (by omega), zuI_row, if_neg (by omega), zuI_row, if_neg (by omega), zuI_row]
    show _ = zi ((qu D.2.1 D.1 v i : Nat) : Int)
    by_cases e1 : i = D.1
    · subst e1
      rw [if_pos ⟨rfl, rfl⟩, qu_at]
    · rw [if_neg (fun q2 => e1 q2.2), qu_ne e1]
      exact (d6 i (by omega)).1
  · have hi2 : i < D.1 + 1 := hi
    rw [zuI_row, if_neg (by omega), zuI_row, if_neg (by omega), zuI_row]
    show _ = zi ((qu D.2.2.1 D.1 s i : Nat) : Int)
    by_cases e1 : i = D.1
    · subst e1
      rw [if_pos ⟨rfl, rfl⟩, qu_at]
    · rw [if_neg (fun q2 => e1 q2.2), qu_ne e1, zuI_row, if_neg (by omega)]
      exact (d6 i (by omega)).2.1
  · have hi2 : i < D.1 + 1 := hi
    show τ.2.2.2 (m + 13) i = Int64.ofInt (qname (qu D.2.2.2.2.1 D.1 nm i))
    by_cases e1 : i = D.1
    · subst e1
      rw [qu_at]
      exact hn
    · rw [qu_ne e1]
      exact (d6 i (by omega)).2.2
/-- what a step gives: the error, or the draft and the place -/
def RO (m : Nat) (tx : List Int32) (σ : zS) (K : Nat) (r : (Nat × Nat) ⊕ (pD × Nat)) (υ : zS) : Prop := match r with | .inl e => RB m σ e υ | .inr a => RG m tx σ a.1 K a.2 υ
theorem rg_115 {nm : List Int32} (h : RSh σ m tx) (g : RG m tx σ D K p τ) (h4 : D.1 < 4) (hn : τ.2.2.2 (m + 13) D.1 = Int64.ofInt (qname nm)) : ∃ υ, jX10_readsSource_115 τ m (zi D.1) = some υ ∧ RO m tx σ K (pb (pwn tx 1 (pT tx p)) fun a => pb (pwn tx 2 a.2) fun b => pb (pla tx b.2) fun c => .inr (pput D a.1 b.1 c.1 nm, c.2)) υ := by
  have hs := RSh_r h g.1
  obtain ⟨s1, e1, g1, f1⟩ := rg_goOn h g
  have h1 := RSh_r h g1.1
  obtain ⟨s2, v2, e2, g2⟩ := rg_behind (w := 1) h g1 (by omega)
  have e2 : fX10_numberBehind s1 m (zi 6) (zi 0) (zi 200) = some (s2, v2) := e2
  unfold jX10_readsSource_115
  rw [rck9 hs, e1, Option.bind_some, rck9 h1, e2, Option.bind_some]
  dsimp only
  cases r2 : pwn tx 1 (pT tx p) with
  | inl x =>
    rw [r2] at g2
    have h2 := RSh_r h g2.1
    obtain ⟨v3, e3⟩ := rb_behind (a := zi 7) (b := zi 0) (c := zi 999) h g2
    rw [rck9 h2, e3, Option.bind_some]
    dsimp only
    rw [rck9 h2, rb_isWord h g2, Option.bind_some]
    dsimp only
    rw [if_pos rfl, rb_163 h g2]
    exact ⟨s2, rfl, g2⟩
  | inr a =>
    rw [r2] at g2
    obtain ⟨g2, f2, rfl⟩ := g2
    have h2 := RSh_r h g2.1
    obtain ⟨s3, v3, e3, g3⟩ := rg_behind (w := 2) h g2 (by omega)
    have e3 : fX10_numberBehind s2 m (zi 7) (zi 0) (zi 999) = some (s3, v3) := e3
    rw [rck9 h2, e3, Option.bind_some]
    dsimp only
    show ∃ υ, _ ∧ RO m tx σ K (pb (pwn tx 2 a.2) fun b => pb (pla tx b.2) fun c => .inr (pput D a.1 b.1 c.1 nm, c.2)) υ
    cases r3 : pwn tx 2 a.2 with
    | inl x =>
      rw [r3] at g3
      have h3 := RSh_r h g3.1
      rw [rck9 h3, rb_isWord h g3, Option.bind_some]
      dsimp only
      rw [if_pos rfl, rb_163 h g3]
      exact ⟨s3, rfl, g3⟩
    | inr b =>
      rw [r3] at g3
      obtain ⟨g3, f3, rfl⟩ := g3
      have h3 := RSh_r h g3.1
      have hn3 : s3.2.2.2 (m + 13) D.1 = Int64.ofInt (qname nm) := by rw [f3.2.1, f2.2.1, f1.2.1]; exact hn
      have ew : fX10_isWord s3 m (zi 8) = some (s3, zb (decide (pW tx b.2 = some 3))) := rg_isWord (w := 3) h g3 (by omega)
      rw [rck9 h3, ew, Option.bind_some]
      dsimp only
      show ∃ υ, _ ∧ RO m tx σ K (pb (pla tx b.2) fun c => .inr (pput D a.1 b.1 c.1 nm, c.2)) υ
      unfold pla
      by_cases eW : pW tx b.2 = some 3
      · rw [decide_eq_true eW, if_neg zt, if_pos eW]
        obtain ⟨s4, v4, e4, g4⟩ := rg_behind (w := 3) h g3 (by omega)
        have e4 : fX10_numberBehind s3 m (zi 8) (zi 0) (zi 9) = some (s4, v4) := e4
        have er : pwn tx 3 b.2 = pnb tx 3 (pT tx b.2) := by
          unfold pwn pwd
          rw [if_pos eW]
          rfl
        rw [er] at g4
        rw [rck9 h3, e4, Option.bind_some]
        dsimp only
        cases r4 : pnb tx 3 (pT tx b.2) with
        | inl x =>
          rw [r4] at g4
          rw [rb_163 h g4]
          exact ⟨s4, rfl, g4⟩
        | inr c =>
          rw [r4] at g4
          obtain ⟨g4, f4, rfl⟩ := g4
          exact rg_163 h g4 h4 (by rw [f4.2.1]; exact hn3)
      · rw [decide_eq_false eW, if_pos zf, if_neg eW]
        exact rg_163 (l := 0) h g3 h4 hn3
theorem psr_as (h4 : ¬ 4 ≤ D.1) : psr tx D p = pb (pna tx D (pT tx p)) fun p2 => pb (pwn tx 1 p2) fun a => pb (pwn tx 2 a.2) fun b => pb (pla tx b.2) fun c => .inr (pput D a.1 b.1 c.1 (ptx tx (pF tx (pT tx p)) (pT tx (pT tx p))), c.2) := by
  unfold psr pwn
  rw [if_neg h4]
  cases pna tx D (pT tx p) with
  | inl x => rfl
  | inr p2 =>
    show pb (pwd tx 1 p2) _ = pb (pb (pwd tx 1 p2) _) _
    cases pwd tx 1 p2 with
    | inl x => rfl
    | inr p3 =>
      show pb (pnb tx 1 p3) _ = pb (pnb tx 1 p3) _
      cases pnb tx 1 p3 with
      | inl x => rfl
      | inr a =>
        show pb (pwd tx 2 a.2) _ = pb (pb (pwd tx 2 a.2) _) _
        cases pwd tx 2 a.2 with
        | inl x => rfl
        | inr p4 => rfl
theorem rg_src (h : RSh σ m tx) (g : RG m tx σ D K p τ) (hD : pDok D) : ∃ υ, fX10_readsSource τ m = some υ ∧ RO m tx σ K (psr tx D p) υ := by
  have hs := RSh_r h g.1
  have hd4 := hD.1
  have bad : ∀ s e, RB m σ e s → (zgI 9 19 s m).bind (fun v4 => (if v4 = ((zi 1)) then (zgI 9 20 s m).bind fun v33 => (if v33 = ((zi (-1))) then (zgI 9 17 s m).bind fun v34 => (zgI 9 18 s m).bind fun v35 => (if ((zi 8)) < (v34 - v35) then jX10_readsSource_59 s m (zi D.1) m else jX10_readsSource_60 s m (zi D.1) ((zi 1)) m) else jX10_readsSource_59 s m (zi D.1) m) else jX10_readsSource_59 s m (zi D.1) m)) = some s := fun s e gb => by
    have h1 := RSh_r h gb.1
    unfold jX10_readsSource_59
    simp only [rg_i h1.1, Option.bind_some, rb_60 h gb, ite_self]
  unfold fX10_readsSource jX10_readsSource_16
  rw [rg_i hs.1, Option.bind_some, g.2.2.2.1.1.2]
  by_cases h4 : 4 ≤ D.1
  · rw [if_pos ((zi_le (by omega) (by omega) (by omega) (by omega)).2 (show (4 : Int) ≤ D.1 by omega)), rck9 hs]
    obtain ⟨s1, e1, g1⟩ := rg_needs0 (c := 4) h g (by omega) (by omega)
    rw [show fX10_needs τ m (zi 0) (zi 4) = some s1 from e1, Option.bind_some, rck9 (RSh_r h g1.1), rb_goOn h g1, Option.bind_some, bad s1 _ g1]
    refine ⟨s1, rfl, ?_⟩
    unfold psr
    rw [if_pos h4]
    exact g1
  · rw [if_neg (show ¬ zi 4 ≤ zi (D.1 : Int) by rw [zi_le (by omega) (by omega) (by omega) (by omega)]; omega), rck9 hs, rg_needs1 h g, Option.bind_some, rck9 hs, psr_as h4]
    obtain ⟨s1, e1, g1, f1⟩ := rg_goOn h g
    have h1 := RSh_r h g1.1
    obtain ⟨q, hq⟩ : ∃ q, q = pT tx p := ⟨_, rfl⟩
    rw [← hq] at g1 ⊢
    obtain ⟨b1, b2, b3, -⟩ := pT_in g1.2.2.2.2
    have hl := rlen h
    have htl := rtk_le (tx := tx) (p := q)
    have hwl := rwd_le (o := pW tx q)
    rw [e1, Option.bind_some, rg_i h1.1, Option.bind_some, g1.2.2.1.2.2.1]
    have bad1 : ¬ (pK tx q = 1 ∧ pT tx q - pF tx q ≤ 8 ∧ pW tx q = none) → ∃ υ, jX10_readsSource_59 s1 m (zi D.1) m = some υ ∧ RO m tx σ K (pb (pna tx D q) fun p2 => pb (pwn tx 1 p2) fun a => pb (pwn tx 2 a.2) fun b => pb (pla tx b.2) fun c => .inr (pput D a.1 b.1 c.1 (ptx tx (pF tx q) (pT tx q)), c.2)) υ := fun hne => by
      obtain ⟨s2, e2, g2⟩ := rg_needs0 (c := 1) h g1 (by omega) (by omega)
      unfold jX10_readsSource_59 jX10_readsSource_60 pna
      rw [if_neg hne, rck9 h1, show fX10_needs s1 m (zi 0) (zi 1) = some s2 from e2, Option.bind_some, rck9 (RSh_r h g2.1), rb_fine h g2, Option.bind_some]
      exact ⟨s2, if_pos rfl, g2⟩
    by_cases k1 : pK tx q = 1
    · rw [if_pos (show zi (rtk tx q) = zi 1 by rw [rtk_1.2 k1]; rfl), rg_i h1.1, Option.bind_some, g1.2.2.1.2.2.2.1 k1]
      by_cases kW : pW tx q = none
      · rw [if_pos (show zi (rwd (pW tx q)) = zi (-1) by rw [kW]; rfl), rg_i h1.1, Option.bind_some, rg_i h1.1, Option.bind_some, g1.2.2.1.1, g1.2.2.1.2.1, zi_sub]
        by_cases k8 : pT tx q - pF tx q ≤ 8
        · rw [if_neg (show ¬ zi 8 < zi ((pT tx q : Int) - pF tx q) by rw [zi_lt (by omega) (by omega) (by omega) (by omega)]; omega)]
          obtain ⟨n1, n2⟩ := plet_tx k1 g1.2.2.2.2
          have en := rd_name h1 g1.2.2.1.1 g1.2.2.1.2.1 b1 b2
          have epl := rd_place (σ := s1) (a := m + 13) (n := D.1) (nm := D.2.2.2.2.1) (l := ptx tx (pF tx q) (pT tx q)) (rsk_13 h1.1) hd4 (fun s hs4 => ⟨(g1.2.2.2.1.2.2.2.2 s hs4).2.2, (hD.2.2.2.1 s hs4).2.1, (hD.2.2.2.1 s hs4).2.2⟩) (by rw [ptx_len b2]; exact k8) n2
          have hpl := pnm_lt (n := D.1) (nm := D.2.2.2.2.1) (l := ptx tx (pF tx q) (pT tx q))
          unfold jX10_readsSource_60 pna
          rw [if_pos ⟨k1, k8, kW⟩, rck9 h1, rg_needs1 h g1, Option.bind_some, rck9 h1, rg_fine h g1, Option.bind_some]
          dsimp only
          rw [if_neg z10, rck9 h1, en, Option.bind_some]
          dsimp only
          rw [rsh_29 h1.1, Option.bind_some, epl, Option.bind_some]
          dsimp only
          unfold jX10_readsSource_94
          by_cases hx : ∃ s, s < D.1 ∧ D.2.2.2.2.1 s = ptx tx (pF tx q) (pT tx q)
          · rw [if_neg (show ¬ zi (pnm D.1 D.2.2.2.2.1 (ptx tx (pF tx q) (pT tx q))) = zi (-1) by rw [zi_eq (by omega) (by omega) (by omega) (by omega), pnm_neg]; exact fun q => q hx), if_pos hx, rck9 h1]
            obtain ⟨s2, e2, g2⟩ := rg_needs0 (c := 3) h g1 (by omega) (by omega)
            rw [show fX10_needs s1 m (zi 0) (zi 3) = some s2 from e2, Option.bind_some, rck9 (RSh_r h g2.1), rb_fine h g2, Option.bind_some]
            dsimp only
            rw [if_pos rfl, rb_115 h g2]
            exact ⟨s2, rfl, g2⟩
          · rw [if_pos (show zi (pnm D.1 D.2.2.2.2.1 (ptx tx (pF tx q) (pT tx q))) = zi (-1) by rw [pnm_neg.2 hx]), if_neg hx, rck9 h1, rg_needs1 h g1, Option.bind_some, rck9 h1, rg_fine h g1, Option.bind_some]
            dsimp only
            rw [if_neg z10, rsh_29 h1.1, Option.bind_some, rck9 h1, en, Option.bind_some]
            dsimp only
            rw [zsJ_of D.1 (rsk_13 h1.1) rfl (by omega) (by decide), Option.bind_some]
            obtain ⟨y1, y2, y3, ⟨y4, y5, y6, y7, y8⟩, y9⟩ := g1
            have g2 : RG m tx σ D K q (zuJ s1 (m + 13) D.1 (Int64.ofInt (qname (ptx tx (pF tx q) (pT tx q))))) := ⟨rfr_trans y1 rfr_J, y2, y3, ⟨y4, y5, y6, y7, fun s hs4 => ⟨(y8 s hs4).1, (y8 s hs4).2.1, by
              rw [show (zuJ s1 (m + 13) D.1 (Int64.ofInt (qname (ptx tx (pF tx q) (pT tx q))))).2.2.2 (m + 13) s = if m + 13 = m + 13 ∧ s = D.1 then _ else s1.2.2.2 (m + 13) s from rfl, if_neg (by omega)]
              exact (y8 s hs4).2.2⟩⟩, y9⟩
            exact rg_115 h g2 (by omega) (if_pos ⟨rfl, rfl⟩)
        · rw [if_pos ((zi_lt (by omega) (by omega) (by omega) (by omega)).2 (show (8 : Int) < (pT tx q : Int) - pF tx q by omega))]
          exact bad1 (fun q => k8 q.2.1)
      · rw [if_neg (show ¬ zi (rwd (pW tx q)) = zi (-1) by
          rw [zi_eq (by omega) (by omega) (by omega) (by omega)]
          unfold rwd
          cases hW : pW tx q with
          | none => exact absurd hW kW
          | some w => dsimp only; omega)]
        exact bad1 (fun q => kW q.2.2)
    · rw [if_neg (show ¬ zi (rtk tx q) = zi 1 by rw [zi_eq (by omega) (by omega) (by omega) (by omega)]; have := rtk_1 (tx := tx) (p := q); omega)]
      exact bad1 (fun q => k1 q.1)
end QE
