/-! The reference parses, and finds a name. -/
section QI2
variable {σ τ υ : zS} {m p k w K : Nat} {tx ou : List Int32} {D : pD} {P : qP} {M : qM} {H : List qM} {S : Option qM} {nm : Nat → List Int32} {er ea : Int} {e : Nat × Nat}
theorem pse0_in (h : pDok D) (hw : w < 9) (h4 : 4 ≤ w) : (w = 8 ∨ plo w ≤ pse0 D w) ∧ 0 ≤ pse0 D w ∧ pse0 D w ≤ pup w := by
  have h2 := plo_all w
  unfold pse0
  cases hS : D.2.2.2.2.2 (w - 4) with
  | none =>
    have : w = 4 ∨ w = 5 ∨ w = 6 ∨ w = 7 ∨ w = 8 := by omega
    rcases this with rfl | rfl | rfl | rfl | rfl <;> decide
  | some v =>
    have := h.2.2.2.2 _ _ hS
    rw [show w - 4 + 4 = w by omega] at this
    dsimp only
    omega
theorem pM_I (h : pDok D) (hP : qPok (pP D)) : qI (pP D) (pM D) := by
  have h4 := pse0_in (w := 4) h (by omega) (by omega)
  have h6 := pse0_in (w := 6) h (by omega) (by omega)
  have h7 := pse0_in (w := 7) h (by omega) (by omega)
  have l4 : plo 4 = 1 := by decide
  have l6 : plo 6 = 1 := by decide
  have u4 : pup 4 = 4 := by decide
  have u6 : pup 6 = 9 := by decide
  have u7 : pup 7 = 99 := by decide
  refine qI_start hP (by omega) (by omega) (by omega) ?_ (fun s hs => ?_)
  · split
    · exact Or.inr rfl
    · exact Or.inl rfl
  · have := (h.2.1 s).2.2
    omega
theorem rb_hi {c : Nat} (hc : c < 78) : 144 ≤ rb c ∧ rb c < 33894 := by
  unfold rb
  constructor
  · split
    · omega
    · split
      · omega
      · split
        · omega
        · split
          · omega
          · split
            · omega
            · split
              · omega
              · split
                · omega
                · split <;> omega
  · split
    · omega
    · split
      · omega
      · split
        · omega
        · split
          · omega
          · split
            · omega
            · split
              · omega
              · split
                · omega
                · split <;> omega
theorem pfi_0 (hk : 43 ≤ k) : pfi D k = 0 := by
  unfold pfi
  rw [if_neg (by omega), if_neg (by omega), if_neg (by omega), if_neg (by omega), if_neg (by omega), if_neg (by omega)]
theorem pM_RM {A : Nat → Int32} (h : ∀ k, k < 33894 → A k = zi (pfi D k)) : RM A (pP D) (pM D) := by
  refine ⟨fun k hk => ?_, fun c hc => ?_⟩
  · rw [h k (by omega)]
    congr 1
    unfold pS pM qstart pfi
    dsimp only
    by_cases k1 : k < 37
    · rw [if_pos k1]
      by_cases c1 : k = 1
      · rw [if_pos c1, if_pos c1]
      · rw [if_neg c1, if_neg c1]
        by_cases c2 : k = 2
        · rw [if_pos c2, if_pos c2]
        · rw [if_neg c2, if_neg c2]
          by_cases c3 : k = 3
          · rw [if_pos c3, if_pos c3]
          · rw [if_neg c3, if_neg c3]
            by_cases c4 : k = 4
            · rw [if_pos c4, if_pos c4]
            · rw [if_neg c4, if_neg c4]
              by_cases c9 : 9 ≤ k ∧ k < 13
              · rw [if_pos c9, if_pos c9]
              · rw [if_neg c9, if_neg c9, if_neg (by omega)]
    · rw [if_neg k1]
      by_cases k2 : k < 43
      · rw [if_pos k2, if_neg (by omega), if_neg (by omega), if_neg (by omega), if_neg (by omega), if_neg (by omega), if_pos (by omega), if_neg (by omega), if_neg (by omega), if_neg (by omega), if_neg (by omega), if_neg (by omega)]
        rfl
      · rw [if_neg k2, if_neg (by omega), if_neg (by omega), if_neg (by omega), if_neg (by omega), if_neg (by omega), if_neg (by omega)]
        have z : ∀ i, 13 ≤ i → (if i = 1 then pse0 D 4 else if i = 2 then pse0 D 6 else if i = 3 then pse0 D 7 else if i = 4 then (if pse0 D 8 = 1 then (1 : Int) else 0) else if 9 ≤ i ∧ i < 13 then ((D.2.2.2.1 (i - 9) : Nat) : Int) else 0) = 0 := fun i hi => by
          rw [if_neg (by omega), if_neg (by omega), if_neg (by omega), if_neg (by omega), if_neg (by omega)]
        rw [z _ (by omega), z _ (by omega), z _ (by omega), z _ (by omega), z _ (by omega)]
        simp only [ite_self]
  · have hb := rb_hi hc
    have hR : pR (pP D) (pM D) c = [] := by
      unfold pR
      split
      · rfl
      · rfl
    rw [hR]
    refine ⟨?_, Nat.zero_le _, fun i hi => absurd (show i < 0 from hi) (by omega)⟩
    rw [h _ hb.2, pfi_0 (by omega)]
    rfl
/-- the text is about to be read -/
theorem r_begins (h : RI σ m P nm M H S tx er ea ou) (hT : TB tx) : ∃ sb s5, (∀ {B : Type} (f : zS → Option B), ((zpI 9 0 σ m ((zi 0))).bind fun σ1 => (zpI 9 22 σ1 m ((zi 0))).bind fun σ2 => (zpI 9 23 σ2 m ((zi (-1)))).bind fun σ3 => (zck 9 σ3 m (fX10_clears σ3 m )).bind fun c4 => (zck 9 c4 m (fX10_startsReading c4 m )).bind f) = f s5) ∧ RSh sb m tx ∧ RG m tx sb pD0 0 0 s5 ∧ (sb.1 = σ.1 ∧ sb.2.2 = σ.2.2) ∧ (∀ a, a ≠ m → a ≠ m + 5 → sb.2.1 a = σ.2.1 a) ∧ (∀ j, (j = 1 ∨ j = 2 ∨ j = 12 ∨ j = 13 ∨ j = 31) → sb.2.1 m j = σ.2.1 m j) ∧ sb.2.1 m 15 = zi 0 ∧ sb.2.1 m 0 = zi 0 := by
  have hs := h.1.1
  obtain ⟨t1, t2, t3⟩ := RI_tx h
  obtain ⟨s3, h3⟩ : ∃ s3, s3 = zuI (zuI (zuI σ m 0 (zi 0)) m 22 (zi 0)) m 23 (zi (-1)) := ⟨_, rfl⟩
  have k3 : rsh s3 m := by rw [h3]; exact rsh_uI (rsh_uI (rsh_uI hs))
  have i3 : ∀ a, a ≠ m → s3.2.1 a = σ.2.1 a := fun a ha => by
    rw [h3]
    exact (show _ = _ from zu_off _ _ _ ha).trans ((show _ = _ from zu_off _ _ _ ha).trans (zu_off _ _ _ ha))
  have j3 : ∀ j, j ≠ 0 → j ≠ 22 → j ≠ 23 → s3.2.1 m j = σ.2.1 m j := fun j a b c => by
    rw [h3, zuI_rd, if_neg c, zuI_rd, if_neg b, zuI_rd, if_neg a]
  obtain ⟨s4, e4, ⟨a1, a2⟩, a3, a4, a5⟩ := r_clears k3
  have k4 : rsh s4 m := rsh_fr k3 a1 (by rw [a2])
  have q15 : s4.2.1 m 15 = zi tx.length := by rw [a4 15 (by omega), j3 15 (by omega) (by omega) (by omega), t1]
  obtain ⟨sb, hb⟩ : ∃ sb, sb = zuI (zuI (zuI s4 m 16 (zi tx.length)) m 15 (zi 0)) m 17 (zi 0) := ⟨_, rfl⟩
  have kb : rsh sb m := by rw [hb]; exact rsh_uI (rsh_uI (rsh_uI k4))
  have ib : ∀ a, a ≠ m → sb.2.1 a = s4.2.1 a := fun a ha => by
    rw [hb]
    exact (show _ = _ from zu_off _ _ _ ha).trans ((show _ = _ from zu_off _ _ _ ha).trans (zu_off _ _ _ ha))
  have jb : ∀ j, j ≠ 15 → j ≠ 16 → j ≠ 17 → sb.2.1 m j = s4.2.1 m j := fun j a b c => by
    rw [hb, zuI_rd, if_neg c, zuI_rd, if_neg a, zuI_rd, if_neg b]
  have hS : RSh sb m tx := by
    refine ⟨kb, ⟨?_, t2, fun i hi => ?_⟩, hT⟩
    · rw [hb, zuI_rd, if_neg (by omega), zuI_rd, if_neg (by omega), zuI_rd, if_pos rfl]
    · rw [ib _ (by omega), a3 _ (by omega) (by omega), i3 _ (by omega)]
      exact t3 i hi
  obtain ⟨s5, e5, f5, g5⟩ := rb_next (p0 := 0) hS (by rw [hb, zuI_rd, if_pos rfl]; rfl) (by omega)
  have hD : RD sb m pD0 0 := by
    unfold RD
    rw [jb 24 (by omega) (by omega) (by omega), jb 25 (by omega) (by omega) (by omega), jb 26 (by omega) (by omega) (by omega), ib (m + 5) (by omega), ib (m + 11) (by omega), ib (m + 12) (by omega), show sb.2.2.2 = s4.2.2.2 from by rw [hb]; rfl]
    exact a5
  refine ⟨sb, s5, fun f => ?_, hS, ⟨rfr_T f5, ⟨?_, ?_⟩, g5, RD_T hD f5, by omega⟩, ⟨?_, ?_⟩, fun a b1 b2 => ?_, fun j hj => ?_, ?_, ?_⟩
  · rw [rp_i hs, Option.bind_some, rp_i (rsh_uI hs), Option.bind_some, rp_i (rsh_uI (rsh_uI hs)), Option.bind_some, ← h3, show ∀ o : Option zS, zck 9 s3 m o = o from fun o => if_pos k3.1, e4, Option.bind_some, show ∀ o : Option zS, zck 9 s4 m o = o from fun o => if_pos k4.1]
    unfold fX10_startsReading
    rw [rg_i k4, Option.bind_some, q15, rp_i k4, Option.bind_some, rp_i (rsh_uI k4), Option.bind_some, rp_i (rsh_uI (rsh_uI k4)), Option.bind_some, ← hb, rck9 hS, e5]
    rfl
  · rw [f5.2.2.2 22 (by omega), jb 22 (by omega) (by omega) (by omega), a4 22 (by omega), h3, zuI_rd, if_neg (by omega), zuI_rd, if_pos rfl]
  · rw [f5.2.2.2 23 (by omega), jb 23 (by omega) (by omega) (by omega), a4 23 (by omega), h3, zuI_rd, if_pos rfl]
  · rw [hb]
    show s4.1 = _
    rw [a1, h3]
    rfl
  · rw [hb]
    show s4.2.2 = _
    rw [a2, h3]
    rfl
  · rw [ib a b1, a3 a b1 b2, i3 a b1]
  · rw [jb j (by omega) (by omega) (by omega), a4 j (by omega), j3 j (by omega) (by omega) (by omega)]
  · rw [hb, zuI_rd, if_neg (by omega), zuI_rd, if_pos rfl]
  · rw [jb 0 (by omega) (by omega) (by omega), a4 0 (by omega), h3, zuI_rd, if_neg (by omega), zuI_rd, if_neg (by omega), zuI_rd, if_pos rfl]
theorem rc_parse_bad (h : RI σ m P nm M H S tx er ea ou) (hT : TB tx) (hp : ppa tx = .inl e) : ∃ τ, fX10_parse σ m = some (τ, zi (-1)) ∧ RI τ m P nm M H S [] e.1 e.2 ou ∧ zfr m (m + 15) σ τ ∧ τ.2.1 m 0 = zi 0 := by
  obtain ⟨sb, s5, e5, hS, g5, ⟨b1, b2⟩, b3, b4, b5, b6⟩ := r_begins h hT
  obtain ⟨o, eo, ho⟩ := rg_loop hS g5
  have fin : ∀ υ, RB m sb e υ → RI υ m P nm M H S [] e.1 e.2 ou ∧ zfr m (m + 15) σ υ ∧ υ.2.1 m 0 = zi 0 := fun υ gb => by
    obtain ⟨⟨f1, f2, f3, f4, f5⟩, f6, -⟩ := gb
    refine ⟨RI_io h (f1.trans b1) (f2.trans (by rw [b2])) (by rw [f3 _ (by omega), b2]) (fun j hj => by rw [f5 j (by omega), b4 j (by omega)]) (fun o ho => by rw [f4 _ (by omega) (by omega) (by omega) (by omega), b3 _ (by omega) (by omega)]) ⟨by rw [f5 15 (by omega), b5]; rfl, by show 0 ≤ 300; omega, fun i hi => absurd (show i < 0 from hi) (by omega)⟩ f6 ?_, ⟨f1.trans b1, fun a ha => ⟨?_, ?_, ?_⟩⟩, by rw [f5 0 (by omega), b6]⟩
    · unfold ROu
      rw [f5 31 (by omega), b4 31 (by omega), f4 _ (by omega) (by omega) (by omega) (by omega), b3 _ (by omega) (by omega)]
      exact RI_ou h
    · rw [f4 a (by omega) (by omega) (by omega) (by omega), b3 a (by omega) (by omega)]
    · rw [f2, b2]
    · rw [f3 a (by omega), b2]
  have j57 : ∀ (s : zS) (y : Int32), RB m sb e s → jX10_parse_57 s m y m = some (s, zi (-1)) := fun s y gb => by
    have h1 := RSh_r hS gb.1
    unfold jX10_parse_57
    rw [rb_needs hS gb, rck9 h1, Option.bind_some, rck9 h1, rb_fine hS gb, Option.bind_some]
    exact if_pos rfl
  have e0 : fX10_parse σ m = jX10_parse_44 o m := by
    unfold fX10_parse
    rw [e5 (fun c5 => (zloop (sX10_parse_23 m) zfuel c5).bind fun o11 => jX10_parse_44 o11 m)]
    rw [eo]
    rfl
  rw [e0]
  unfold jX10_parse_44
  unfold ppa at hp
  cases hr : plp tx 300 pD0 0 with
  | inl x =>
    rw [hr] at ho hp
    have hp : (Sum.inl x : (Nat × Nat) ⊕ pD) = .inl e := hp
    cases hp
    have h1 := RSh_r hS ho.1
    rw [rg_i h1.1, Option.bind_some, j57 o _ ho, j57 o _ ho, ite_self]
    exact ⟨o, rfl, fin o ho⟩
  | inr a =>
    rw [hr] at ho hp
    obtain ⟨K, g1⟩ := ho
    have h1 := RSh_r hS g1.1
    have hp : (if a.1.1 = 0 then (Sum.inl (5, pF tx a.2) : (Nat × Nat) ⊕ pD) else .inr a.1) = .inl e := hp
    by_cases n0 : a.1.1 = 0
    · rw [if_pos n0] at hp
      cases hp
      obtain ⟨s6, e6, g6⟩ := rg_needs0 (c := 5) hS g1 (by omega) (by omega)
      have h6 := RSh_r hS g6.1
      rw [rg_i h1.1, Option.bind_some, g1.2.2.2.1.1.2, if_pos (show zi (a.1.1 : Int) ≤ zi 0 by rw [n0]; decide)]
      unfold jX10_parse_57
      rw [rck9 h1, show fX10_needs o m (zi 0) (zi 5) = some s6 from e6, Option.bind_some, rck9 h6, rb_fine hS g6, Option.bind_some]
      exact ⟨s6, if_pos rfl, fin s6 g6⟩
    · rw [if_neg n0] at hp
      cases hp
theorem rc_parse (h : RI σ m P nm M H S tx er ea ou) (hT : TB tx) (hp : ppa tx = .inr D) : ∃ τ, fX10_parse σ m = some (τ, zi D.1) ∧ RI τ m (pP D) D.2.2.2.2.1 (pM D) [] none [] 0 (-1) ou ∧ zfr m (m + 15) σ τ ∧ τ.2.1 m 0 = zi 0 := by
  obtain ⟨sb, s5, e5, hS, g5, ⟨b1, b2⟩, b3, b4, b5, b6⟩ := r_begins h hT
  obtain ⟨o, eo, ho⟩ := rg_loop hS g5
  obtain ⟨d1, d2, d3, d4⟩ := ppa_ok (rlen hS) hp
  have e0 : fX10_parse σ m = jX10_parse_44 o m := by
    unfold fX10_parse
    rw [e5 (fun c5 => (zloop (sX10_parse_23 m) zfuel c5).bind fun o11 => jX10_parse_44 o11 m)]
    rw [eo]
    rfl
  rw [e0]
  unfold jX10_parse_44
  unfold ppa at hp
  cases hr : plp tx 300 pD0 0 with
  | inl x =>
    rw [hr] at hp
    cases hp
  | inr a =>
    rw [hr] at ho hp
    obtain ⟨K, g1⟩ := ho
    have h1 := RSh_r hS g1.1
    have hp : (if a.1.1 = 0 then (Sum.inl (5, pF tx a.2) : (Nat × Nat) ⊕ pD) else .inr a.1) = .inr D := hp
    by_cases n0 : a.1.1 = 0
    · rw [if_pos n0] at hp
      cases hp
    rw [if_neg n0] at hp
    cases hp
    have hd4 := d1.1
    obtain ⟨⟨f1, f2, f3, f4, f5⟩, f6, -, ⟨⟨-, f7⟩, f8, -, f9, f10⟩, -⟩ := id g1
    obtain ⟨s2, h2⟩ : ∃ s2, s2 = zuI (zuI o m 1 (zi a.1.1)) m 2 (zi (pse0 a.1 5)) := ⟨_, rfl⟩
    have k2 : rsh s2 m := by rw [h2]; exact rsh_uI (rsh_uI h1.1)
    have i2 : ∀ b, b ≠ m → s2.2.1 b = o.2.1 b := fun b hb => by
      rw [h2]
      exact (show _ = _ from zu_off _ _ _ hb).trans (zu_off _ _ _ hb)
    obtain ⟨s3, e3, ⟨c1, c2⟩, c3, c4, c5⟩ := td_18 k2
    have k3 : rsh s3 m := rsh_fr k2 c1 c2
    have ec := r_copies (σ := s3) (a := m + 5) (b := m + 4) (by omega) (rsk_5 k3) (rsk_4 k3)
    obtain ⟨R, hRw⟩ : ∃ R : Nat → Int32, R = fun k => if k < 33894 then s3.2.1 (m + 5) k else s3.2.1 (m + 4) k := ⟨_, rfl⟩
    rw [← hRw] at ec
    have k4 : rsh (rp s3 (m + 4) R) m := k3
    obtain ⟨t, ht⟩ : ∃ t, t = zuI (zuI (rp s3 (m + 4) R) m 12 (zi 0)) m 13 (zi 0) := ⟨_, rfl⟩
    have kt : rsh t m := by rw [ht]; exact rsh_uI (rsh_uI k4)
    have tm : ∀ j, j ≠ 12 → j ≠ 13 → t.2.1 m j = s2.2.1 m j := fun j n1 n2 => by
      rw [ht, zuI_rd, if_neg n2, zuI_rd, if_neg n1, rp_ne (by omega), c4 m (by omega) (by omega)]
    have ti : ∀ b, b ≠ m → b ≠ m + 4 → t.2.1 b = s3.2.1 b := fun b n1 n2 => by
      rw [ht]
      exact (show _ = _ from zu_off _ _ _ n1).trans ((show _ = _ from zu_off _ _ _ n1).trans (rp_ne n2))
    have t4 : t.2.1 (m + 4) = R := by
      rw [ht]
      exact (show _ = _ from zu_off _ _ _ (by omega)).trans ((show _ = _ from zu_off _ _ _ (by omega)).trans rp_at)
    have tk : t.1 = σ.1 := by
      rw [ht]
      show s3.1 = _
      rw [c1, h2]
      exact f1.trans b1
    have trf : t.2.2.1 = σ.2.2.1 := by
      rw [ht]
      show s3.2.2.1 = _
      rw [c2, h2]
      show o.2.2.1 = _
      rw [f2, b2]
    have tj : ∀ b, b ≠ m + 3 → b ≠ m + 13 → t.2.2.2 b = σ.2.2.2 b := fun b n1 n2 => by
      rw [ht]
      show s3.2.2.2 b = _
      rw [c3 b n1, h2]
      show o.2.2.2 b = _
      rw [f3 b n2, b2]
    have s2m : ∀ j, j ≠ 1 → j ≠ 2 → s2.2.1 m j = o.2.1 m j := fun j n1 n2 => by
      rw [h2, zuI_rd, if_neg n2, zuI_rd, if_neg n1]
    have tsn : t.2.1 m 1 = zi a.1.1 ∧ t.2.1 m 2 = zi (pse0 a.1 5) := by
      rw [tm 1 (by omega) (by omega), tm 2 (by omega) (by omega), h2]
      exact ⟨by rw [zuI_rd, if_neg (by omega), zuI_rd, if_pos rfl], by rw [zuI_rd, if_pos rfl]⟩
    have ts : ∀ s, s < a.1.1 → t.2.1 (m + 1) s = zi (a.1.2.1 s) ∧ t.2.1 (m + 2) s = zi (a.1.2.2.1 s) ∧ t.2.2.2 (m + 3) s = Int64.ofInt (qname (a.1.2.2.2.2.1 s)) := fun s hs4 => by
      obtain ⟨y1, y2, y3⟩ := c5 s (by omega)
      obtain ⟨y4, y5, y6⟩ := f10 s hs4
      refine ⟨?_, ?_, ?_⟩
      · rw [ti _ (by omega) (by omega), y1, i2 _ (by omega), y4]
      · rw [ti _ (by omega) (by omega), y2, i2 _ (by omega), y5]
      · rw [ht]
        show s3.2.2.2 (m + 3) s = _
        rw [y3, h2]
        exact y6
    have e5b : pse0 a.1 5 = (((pP a.1).2.1 : Nat) : Int) := by
      show _ = ((pse0 a.1 5).toNat : Int)
      omega
    have e57 : jX10_parse_57 o m (zi 1) m = some (t, zi a.1.1) := by
      unfold jX10_parse_57 fX10_takesDraft
      rw [rck9 h1, rg_needs1 hS g1, Option.bind_some, rck9 h1, rg_fine hS g1, Option.bind_some]
      dsimp only
      rw [if_neg z10, rck9 h1, rg_i h1.1, Option.bind_some, f7, rp_i h1.1, Option.bind_some, rg_i (rsh_uI h1.1), Option.bind_some, zuI_rd, if_neg (by omega), f8, rp_i (rsh_uI h1.1), Option.bind_some, ← h2, e3, Option.bind_some, rsh_7 k3, Option.bind_some, rsh_6 k3, Option.bind_some, ec, Option.bind_some, rp_i k4, Option.bind_some, show zpZ 9 13 (zuI (rp s3 (m + 4) R) m 12 (zi 0)) m (zi 0) = some t from (if_pos ⟨k4.1, Or.inl rfl⟩).trans (by rw [ht]), Option.bind_some, Option.bind_some, rg_i kt, Option.bind_some, tsn.1]
    rw [rg_i h1.1, Option.bind_some, f7, if_neg (show ¬ zi (a.1.1 : Int) ≤ zi 0 by rw [zi_le (by omega) (by omega) (by omega) (by omega)]; omega), e57]
    refine ⟨t, rfl, ⟨⟨kt, ⟨tsn.1, by rw [tsn.2, e5b], fun s hs4 => ⟨(ts s hs4).1, (ts s hs4).2.1⟩⟩, ?_, pM_I d1 d3⟩, fun s hs4 => ⟨(ts s hs4).2.2, d1.2.2.2.1 s hs4⟩, ⟨?_, by show 0 ≤ 6; omega, fun k hk => absurd (show k < 0 from hk) (by omega)⟩, ⟨?_, fun N hN => by cases hN⟩, ⟨?_, by show 0 ≤ 300; omega, fun i hi => absurd (show i < 0 from hi) (by omega)⟩, ⟨?_, ?_⟩, ?_⟩, ⟨tk, fun b hb => ⟨?_, by rw [trf], tj b (by omega) (by omega)⟩⟩, ?_⟩
    · rw [t4]
      refine pM_RM (fun k hk => ?_)
      rw [hRw]
      dsimp only
      rw [if_pos hk, c4 _ (by omega) (by omega), i2 _ (by omega), f9 k hk]
    · rw [ht, zuI_rd, if_neg (by omega), zuI_rd, if_pos rfl]
      rfl
    · rw [ht, zuI_rd, if_pos rfl]
      rfl
    · rw [tm 15 (by omega) (by omega), s2m _ (by omega) (by omega), f5 15 (by omega), b5]
      rfl
    · rw [tm 22 (by omega) (by omega), s2m _ (by omega) (by omega)]
      exact f6.1
    · rw [tm 23 (by omega) (by omega), s2m _ (by omega) (by omega)]
      exact f6.2
    · unfold ROu
      rw [tm 31 (by omega) (by omega), s2m _ (by omega) (by omega), f5 31 (by omega), b4 31 (by omega), ti _ (by omega) (by omega), c4 _ (by omega) (by omega), i2 _ (by omega), f4 _ (by omega) (by omega) (by omega) (by omega), b3 _ (by omega) (by omega)]
      exact RI_ou h
    · rw [ti b (by omega) (by omega), c4 b (by omega) (by omega), i2 b (by omega), f4 b (by omega) (by omega) (by omega) (by omega), b3 b (by omega) (by omega)]
    · rw [tm 0 (by omega) (by omega), s2m _ (by omega) (by omega), f5 0 (by omega), b6]
end QI2
