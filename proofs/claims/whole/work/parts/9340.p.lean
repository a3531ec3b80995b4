/-! The reference is made: it holds what the class holds. -/
section N10
variable {σ τ σ0 : zS} {x n o j k len hi m : Nat} {q : Nat × Nat} {ks rs : List (Nat × Nat × Nat)} {is : List (Nat × Nat × Int)} {D : pD}
theorem st_arrJ {f : zS → Option zS} {P : zS → Prop} (js : List Nat) (h : SK x σ ks rs is) (g : zgr x (x + hi) σ0 σ) (k1 : Nat) (hk : (o, k1, 0) ∈ ks) (hk1 : k1 = k + 5) (ho : o < hi) (hn : n < hi) (h1 : ks.all (fun p => decide (p.1 ≠ n)) = true) (h2 : rs.all (fun p => decide (p.1 ≠ n)) = true) (h3 : is.all (fun p => decide (p.1 ≠ n)) = true) (h4 : rs.all (fun p => decide (p.1 ≠ o ∨ p.2.1 ≠ j)) = true) (hon : o ≠ n)
    (kk : ∀ σ', SK x σ' ((n, q) :: ks) ((o, j, n) :: rs) (js.map (fun j => (n, j, 0)) ++ is) → zgr x (x + hi) σ0 σ' → ∃ τ, f σ' = some τ ∧ P τ) : ∃ τ, (zpR k j (znew σ (x + n) q) (x + o) (some (x + n))).bind f = some τ ∧ P τ := by
  have hs := SK_R (o := o) (j := j) (n := n) (SK_new (q := q) h js h1 h2 h3) h4
  have e : ((znew σ (x + n) q).1 (x + o)).1 = k + 5 := by
    rw [(znew_o (by omega)).1, h.1 _ hk]
    exact hk1
  obtain ⟨τ, e1, e2⟩ := kk _ hs (zgr_trans g (zgr_trans (zgr_wide (zgr_new (σ := σ) (N := x + n) (q := q)) (by omega) (by omega)) (zgr_wide (zgr_fr zfr_R) (by omega) (by omega))))
  exact ⟨τ, by rw [zpR_of e, Option.bind_some]; exact e1, e2⟩
theorem r_takes {o : zS} (k1 : rsh o m) (hRD : RD o m D 0) (d1 : pDok D) (d3 : qPok (pP D)) (hp5 : 0 ≤ pse0 D 5) (i15 : o.2.1 m 15 = zi 0) (i22 : o.2.1 m 22 = zi 0) (i23 : o.2.1 m 23 = zi (-1)) (i31 : o.2.1 m 31 = zi 0) : ∃ t, fX10_takesDraft o m = some t ∧ zfr m (m + 15) o t ∧ RI t m (pP D) D.2.2.2.2.1 (pM D) [] none [] 0 (-1) [] := by
  obtain ⟨⟨hd4, f7⟩, f8, -, f9, f10⟩ := id hRD
  obtain ⟨s2, h2⟩ : ∃ s2, s2 = zuI (zuI o m 1 (zi D.1)) m 2 (zi (pse0 D 5)) := ⟨_, rfl⟩
  have k2 : rsh s2 m := by rw [h2]; exact rsh_uI (rsh_uI k1)
  have i2 : ∀ b, b ≠ m → s2.2.1 b = o.2.1 b := fun b hb => by
    rw [h2]
    exact (show _ = _ from zu_off _ _ _ hb).trans (zu_off _ _ _ hb)
  obtain ⟨s3, e3, ⟨c1, c2⟩, c3, c4, c5⟩ := td_18 k2
  have k3 : rsh s3 m := rsh_fr k2 c1 c2
  have ec := r_copies (σ := s3) (a := m + 5) (b := m + 4) (by omega) (rsk_5 k3) (rsk_4 k3)
  obtain ⟨R, hRw⟩ : ∃ R : Nat → Int32, R = fun k => if k < 33894 then s3.2.1 (m + 5) k else s3.2.1 (m + 4) k := ⟨_, rfl⟩
  rw [← hRw] at ec
  have k4 : rsh (rp s3 (m + 4) R) m := k3
  obtain ⟨t, ht⟩ : ∃ t, t = zuI (zuI (rp s3 (m + 4) R) m 12 (zi 0)) m 13 (zi 0) := ⟨_, rfl⟩
  have kt : rsh t m := by rw [ht]; exact rsh_uI (rsh_uI k4)
  have tm : ∀ j, j ≠ 12 → j ≠ 13 → t.2.1 m j = s2.2.1 m j := fun j n1 n2 => by
    rw [ht, zuI_rd, if_neg n2, zuI_rd, if_neg n1, rp_ne (by omega), c4 m (by omega) (by omega)]
  have ti : ∀ b, b ≠ m → b ≠ m + 4 → t.2.1 b = s3.2.1 b := fun b n1 n2 => by
    rw [ht]
    exact (show _ = _ from zu_off _ _ _ n1).trans ((show _ = _ from zu_off _ _ _ n1).trans (rp_ne n2))
  have t4 : t.2.1 (m + 4) = R := by
    rw [ht]
    exact (show _ = _ from zu_off _ _ _ (by omega)).trans ((show _ = _ from zu_off _ _ _ (by omega)).trans rp_at)
  have tk : t.1 = o.1 := by
    rw [ht]
    show s3.1 = _
    rw [c1, h2]
    rfl
  have trf : t.2.2.1 = o.2.2.1 := by
    rw [ht]
    show s3.2.2.1 = _
    rw [c2, h2]
    rfl
  have tj : ∀ b, b ≠ m + 3 → t.2.2.2 b = o.2.2.2 b := fun b n1 => by
    rw [ht]
    show s3.2.2.2 b = _
    rw [c3 b n1, h2]
    rfl
  have s2m : ∀ j, j ≠ 1 → j ≠ 2 → s2.2.1 m j = o.2.1 m j := fun j n1 n2 => by
    rw [h2, zuI_rd, if_neg n2, zuI_rd, if_neg n1]
  have tsn : t.2.1 m 1 = zi D.1 ∧ t.2.1 m 2 = zi (pse0 D 5) := by
    rw [tm 1 (by omega) (by omega), tm 2 (by omega) (by omega), h2]
    exact ⟨by rw [zuI_rd, if_neg (by omega), zuI_rd, if_pos rfl], by rw [zuI_rd, if_pos rfl]⟩
  have ts : ∀ s, s < D.1 → t.2.1 (m + 1) s = zi (D.2.1 s) ∧ t.2.1 (m + 2) s = zi (D.2.2.1 s) ∧ t.2.2.2 (m + 3) s = Int64.ofInt (qname (D.2.2.2.2.1 s)) := fun s hs4 => by
    obtain ⟨y1, y2, y3⟩ := c5 s (by omega)
    obtain ⟨y4, y5, y6⟩ := f10 s hs4
    refine ⟨?_, ?_, ?_⟩
    · rw [ti _ (by omega) (by omega), y1, i2 _ (by omega), y4]
    · rw [ti _ (by omega) (by omega), y2, i2 _ (by omega), y5]
    · rw [ht]
      show s3.2.2.2 (m + 3) s = _
      rw [y3, h2]
      exact y6
  have e5b : pse0 D 5 = (((pP D).2.1 : Nat) : Int) := by
    show _ = ((pse0 D 5).toNat : Int)
    omega
  refine ⟨t, ?_, ⟨tk, fun b hb => ⟨?_, by rw [trf], tj b (by omega)⟩⟩, ⟨kt, ⟨tsn.1, by rw [tsn.2, e5b], fun s hs4 => ⟨(ts s hs4).1, (ts s hs4).2.1⟩⟩, ?_, pM_I d1 d3⟩, fun s hs4 => ⟨(ts s hs4).2.2, d1.2.2.2.1 s hs4⟩, ⟨?_, by show 0 ≤ 6; omega, fun k hk => absurd (show k < 0 from hk) (by omega)⟩, ⟨?_, fun N hN => by cases hN⟩, ⟨?_, by show 0 ≤ 300; omega, fun i hi => absurd (show i < 0 from hi) (by omega)⟩, ⟨?_, ?_⟩, ⟨?_, by show 0 ≤ 8000; omega, fun i hi => absurd (show i < 0 from hi) (by omega)⟩⟩
  · unfold fX10_takesDraft
    rw [rg_i k1, Option.bind_some, f7, rp_i k1, Option.bind_some, rg_i (rsh_uI k1), Option.bind_some, zuI_rd, if_neg (by omega), f8, rp_i (rsh_uI k1), Option.bind_some, ← h2, e3, Option.bind_some, rsh_7 k3, Option.bind_some, rsh_6 k3, Option.bind_some, ec, Option.bind_some, rp_i k4, Option.bind_some, show zpZ 9 13 (zuI (rp s3 (m + 4) R) m 12 (zi 0)) m (zi 0) = some t from (if_pos ⟨k4.1, Or.inl rfl⟩).trans (by rw [ht]), Option.bind_some]
  · rw [ti b (by omega) (by omega), c4 b (by omega) (by omega), i2 b (by omega)]
  · rw [t4]
    refine pM_RM (fun k hk => ?_)
    rw [hRw]
    dsimp only
    rw [if_pos hk, c4 _ (by omega) (by omega), i2 _ (by omega), f9 k hk]
  · rw [ht, zuI_rd, if_neg (by omega), zuI_rd, if_pos rfl]
    rfl
  · rw [ht, zuI_rd, if_pos rfl]
    rfl
  · rw [tm 15 (by omega) (by omega), s2m _ (by omega) (by omega), i15]
    rfl
  · rw [tm 22 (by omega) (by omega), s2m _ (by omega) (by omega), i22]
  · rw [tm 23 (by omega) (by omega), s2m _ (by omega) (by omega), i23]
  · rw [tm 31 (by omega) (by omega), s2m _ (by omega) (by omega), i31]
    rfl
abbrev KX10 : List (Nat × Nat × Nat) := [(0, 14, 0), (1, 1, 4), (2, 1, 4), (3, 3, 4), (4, 1, 33894), (5, 1, 33894), (6, 1, 33894), (7, 1, 33894), (8, 1, 33894), (9, 1, 203364), (10, 2, 300), (11, 1, 4), (12, 1, 4), (13, 3, 4), (14, 2, 9000)]
abbrev QX10 : List (Nat × Nat × Nat) := [(0, 3, 1), (0, 4, 2), (0, 5, 3), (0, 6, 4), (0, 7, 5), (0, 8, 6), (0, 9, 7), (0, 10, 8), (0, 11, 9), (0, 14, 10), (0, 27, 11), (0, 28, 12), (0, 29, 13), (0, 30, 14)]
theorem rsh_of (h : SK m σ KX10 QX10 is) : rsh σ m := by
  refine ⟨congrArg Prod.fst (SK_k h 0 (14, 0) (by decide)), ⟨SK_r h 0 3 1 (by decide), SK_r h 0 4 2 (by decide), SK_r h 0 5 3 (by decide), SK_r h 0 6 4 (by decide), SK_r h 0 7 5 (by decide), SK_r h 0 8 6 (by decide), SK_r h 0 9 7 (by decide), SK_r h 0 10 8 (by decide), SK_r h 0 11 9 (by decide), SK_r h 0 14 10 (by decide), SK_r h 0 27 11 (by decide), SK_r h 0 28 12 (by decide), SK_r h 0 29 13 (by decide), SK_r h 0 30 14 (by decide)⟩, ⟨SK_k h 1 (1, 4) (by decide), SK_k h 2 (1, 4) (by decide), SK_k h 3 (3, 4) (by decide), SK_k h 4 (1, 33894) (by decide), SK_k h 5 (1, 33894) (by decide), SK_k h 6 (1, 33894) (by decide), SK_k h 7 (1, 33894) (by decide), SK_k h 8 (1, 33894) (by decide), SK_k h 9 (1, 203364) (by decide), SK_k h 10 (2, 300) (by decide), SK_k h 11 (1, 4) (by decide), SK_k h 12 (1, 4) (by decide), SK_k h 13 (3, 4) (by decide), SK_k h 14 (2, 9000) (by decide)⟩⟩
theorem n_X10 (h : SK m σ [(0, 14, 0)] [] [(0, 0, 0), (0, 15, 0), (0, 22, 0), (0, 31, 0)]) : ∃ τ, gX10_init σ (m + 1) m = some τ ∧ zgr m (m + 15) σ τ ∧ RI τ m (pP Dp) Dp.2.2.2.2.1 (pM Dp) [] none [] 0 (-1) [] := by
  unfold gX10_init
  simp only [Nat.add_assoc, Nat.reduceAdd]
  refine st_arrJ [] (o := 0) (n := 1) (hi := 15) h zgr_refl 14 (by decide) rfl (by omega) (by omega) (by decide) (by decide) (by decide) (by decide) (by omega) (fun σ1 h1 g1 => ?_)
  refine st_arrJ [] (o := 0) (n := 2) (hi := 15) h1 g1 14 (by decide) rfl (by omega) (by omega) (by decide) (by decide) (by decide) (by decide) (by omega) (fun σ2 h2 g2 => ?_)
  refine st_arrJ [] (o := 0) (n := 3) (hi := 15) h2 g2 14 (by decide) rfl (by omega) (by omega) (by decide) (by decide) (by decide) (by decide) (by omega) (fun σ3 h3 g3 => ?_)
  refine st_arrJ [] (o := 0) (n := 4) (hi := 15) h3 g3 14 (by decide) rfl (by omega) (by omega) (by decide) (by decide) (by decide) (by decide) (by omega) (fun σ4 h4 g4 => ?_)
  refine st_arrJ [] (o := 0) (n := 5) (hi := 15) h4 g4 14 (by decide) rfl (by omega) (by omega) (by decide) (by decide) (by decide) (by decide) (by omega) (fun σ5 h5 g5 => ?_)
  refine st_arrJ [] (o := 0) (n := 6) (hi := 15) h5 g5 14 (by decide) rfl (by omega) (by omega) (by decide) (by decide) (by decide) (by decide) (by omega) (fun σ6 h6 g6 => ?_)
  refine st_arrJ [] (o := 0) (n := 7) (hi := 15) h6 g6 14 (by decide) rfl (by omega) (by omega) (by decide) (by decide) (by decide) (by decide) (by omega) (fun σ7 h7 g7 => ?_)
  refine st_arrJ [] (o := 0) (n := 8) (hi := 15) h7 g7 14 (by decide) rfl (by omega) (by omega) (by decide) (by decide) (by decide) (by decide) (by omega) (fun σ8 h8 g8 => ?_)
  refine st_arrJ [] (o := 0) (n := 9) (hi := 15) h8 g8 14 (by decide) rfl (by omega) (by omega) (by decide) (by decide) (by decide) (by decide) (by omega) (fun σ9 h9 g9 => ?_)
  refine st_arrJ [] (o := 0) (n := 10) (hi := 15) h9 g9 14 (by decide) rfl (by omega) (by omega) (by decide) (by decide) (by decide) (by decide) (by omega) (fun σ10 h10 g10 => ?_)
  have k10 : (σ10.1 m).1 = 14 := congrArg Prod.fst (SK_k h10 0 (14, 0) (by decide))
  rw [zpI_of (k := 9) k10, Option.bind_some]
  have h11 := SK_I (o := 0) (j := 23) (v := -1) h10 (by decide)
  have g11 : zgr m (m + 15) σ (zuI σ10 m 23 (zi (-1))) := zgr_trans g10 (zgr_wide (zgr_fr zfr_I) (by omega) (by omega))
  rw [Nat.add_zero] at h11
  generalize zuI σ10 m 23 (zi (-1)) = σ11 at h11 g11 ⊢
  refine st_arrJ [0] (o := 0) (n := 11) (hi := 15) h11 g11 14 (by decide) rfl (by omega) (by omega) (by decide) (by decide) (by decide) (by decide) (by omega) (fun σ12 h12 g12 => ?_)
  refine st_arrJ [0] (o := 0) (n := 12) (hi := 15) h12 g12 14 (by decide) rfl (by omega) (by omega) (by decide) (by decide) (by decide) (by decide) (by omega) (fun σ13 h13 g13 => ?_)
  refine st_arrJ [] (o := 0) (n := 13) (hi := 15) h13 g13 14 (by decide) rfl (by omega) (by omega) (by decide) (by decide) (by decide) (by decide) (by omega) (fun σ14 h14 g14 => ?_)
  refine st_arrJ [] (o := 0) (n := 14) (hi := 15) h14 g14 14 (by decide) rfl (by omega) (by omega) (by decide) (by decide) (by decide) (by decide) (by omega) (fun σ15 h15 g15 => ?_)
  have h16 : SK m σ15 KX10 QX10 [(0, 15, 0), (0, 22, 0), (0, 23, -1), (0, 31, 0), (11, 0, 0), (12, 0, 0)] := SK_sub h15 (by decide) (by decide) (by decide)
  have k16 := rsh_of h16
  obtain ⟨c, e1, ⟨c1, c2⟩, c3, c4, hc⟩ := r_clears k16
  have kc : rsh c m := rsh_fr k16 c1 (by rw [c2])
  have ck : ∀ (s : zS) (o : Option zS), rsh s m → zck 9 s m o = o := fun s o h => if_pos h.1
  obtain ⟨s, hs⟩ : ∃ s, s = zuJ (zuI c m 24 (zi 1)) (m + 13) 0 1 := ⟨_, rfl⟩
  have ks : rsh s m := by rw [hs]; exact rsh_fr kc rfl rfl
  have im : ∀ j, j ≠ 24 → s.2.1 m j = c.2.1 m j := fun j hj => by
    rw [hs]
    show (zuI c m 24 (zi 1)).2.1 m j = _
    rw [zuI_rd, if_neg hj]
  have ia : ∀ a, a ≠ m → s.2.1 a = c.2.1 a := fun a ha => by
    rw [hs]
    exact zu_off _ _ _ ha
  have hRD : RD s m Dp 0 := by
    obtain ⟨-, d2, d3, d4, -⟩ := hc
    refine ⟨⟨by decide, ?_⟩, ?_, ?_, fun k hk => ?_, fun q hq => ?_⟩
    · rw [hs]
      show (zuI c m 24 (zi 1)).2.1 m 24 = _
      rw [zuI_rd, if_pos rfl]
      rfl
    · rw [im 25 (by omega)]
      exact d2
    · rw [im 26 (by omega)]
      exact d3
    · rw [ia _ (by omega)]
      exact d4 k hk
    · have hq1 : q < 1 := hq
      have : q = 0 := by omega
      subst this
      refine ⟨?_, ?_, ?_⟩
      · rw [ia _ (by omega), c3 _ (by omega) (by omega)]
        exact SK_i h16 11 0 0 (by decide)
      · rw [ia _ (by omega), c3 _ (by omega) (by omega)]
        exact SK_i h16 12 0 0 (by decide)
      · rw [hs]
        show (if m + 13 = m + 13 ∧ 0 = 0 then (1 : Int64) else _) = _
        rw [if_pos ⟨rfl, rfl⟩]
        decide
  obtain ⟨t, e2, e3, e4⟩ := r_takes ks hRD Dp_ok Dp_P (by decide) (by rw [im 15 (by omega), c4 15 (by omega)]; exact SK_i h16 0 15 0 (by decide)) (by rw [im 22 (by omega), c4 22 (by omega)]; exact SK_i h16 0 22 0 (by decide)) (by rw [im 23 (by omega), c4 23 (by omega)]; exact SK_i h16 0 23 (-1) (by decide)) (by rw [im 31 (by omega), c4 31 (by omega)]; exact SK_i h16 0 31 0 (by decide))
  have j13 : zsJ (zuI c m 24 (zi 1)) (m + 13) (zi 0) 1 = some s := (zsJ_of (σ := zuI c m 24 (zi 1)) (a := m + 13) (len := 4) (x := 0) (v := 1) 0 (by rw [show (zuI c m 24 (zi 1)).1 = c.1 from rfl, c1]; exact SK_k h16 13 (3, 4) (by decide)) rfl (by omega) (by omega)).trans (by rw [hs])
  refine ⟨t, ?_, ?_, e4⟩
  · rw [ck σ15 _ k16, e1, Option.bind_some, rp_i kc, Option.bind_some, rsh_29 (rsh_uI kc), Option.bind_some, j13, Option.bind_some, ck s _ ks, e2, Option.bind_some]
  · refine zgr_trans g15 (zgr_trans ?_ (zgr_fr e3))
    intro a ha
    refine ⟨by rw [hs]; show c.1 a = _; rw [c1], by rw [ia a (by omega), c3 a (by omega) (by omega)], by rw [hs]; show c.2.2.1 a = _; rw [c2], ?_⟩
    rw [hs]
    have : (zuJ (zuI c m 24 (zi 1)) (m + 13) 0 1).2.2.2 a = c.2.2.2 a := zu_off _ _ _ (by omega)
    rw [this, c2]
end N10
