/-! The class parses, and finds a name. -/
section PK
variable {σ τ υ : zS} {X w q : Nat} {P : qP} {M : qM} {H : List qM} {S : Option qM} {nm : Nat → List Int32} {tx ou : List Int32} {er ea e2 a2 : Int} {D : pD}
theorem zuR_row {i j a b : Nat} {v : Option Nat} : (zuR σ a j v).2.2.1 b i = if b = a ∧ i = j then v else σ.2.2.1 b i := rfl
/-- a text was read in vain -/
theorem CI_bad {u : Nat} (h : CI σ X P nm M H S tx er ea ou) (hu : σ.2.2.1 X 9 = some u) (e1 : τ.1 = σ.1) (e3 : ∀ b i, ¬ (b = X + 3 ∧ i = 3) → τ.2.2.1 b i = σ.2.2.1 b i) (e4 : τ.2.2.2 = σ.2.2.2) (e : ∀ a, a ≠ X + 1 → a ≠ X + 3 → (a < u ∨ u + 10 ≤ a) → τ.2.1 a = σ.2.1 a) (ht : τ.2.1 (X + 1) 1 = zi 0) (hr : τ.2.1 (X + 3) 0 = zi e2 ∧ τ.2.1 (X + 3) 1 = zi a2) : CI τ X P nm M H S [] e2 a2 ou := by
  obtain ⟨w, q, G, ⟨a1, a2, a3, ⟨b1, b2, b3⟩, ⟨c1, c2⟩, a6, a7, a8, a9, a10⟩, hF, h0, hS, hH⟩ := h
  have hu2 : u = X + (22 - w) := by
    rw [a3.2] at hu
    exact (Option.some.inj hu).symm
  have hw := a2
  have k : ∀ lo hi, X + 6 ≤ lo → (hi ≤ u ∨ u + 10 ≤ lo) → zeq σ τ lo hi := fun lo hi hl hd a h1 h2 => ⟨by rw [e1], e a (by omega) (by omega) (by omega), funext fun i => e3 a i (by omega), by rw [e4]⟩
  refine ⟨w, q, G, ⟨csh_eq a1 e1 (fun j _ => by rw [e3 X j (by omega)]) (fun j a ha => by rw [e3 a j (by omega)]) (by rw [e3 (X + 3) 2 (by omega)]), a2, by rw [e3 X 8 (by omega), e3 X 9 (by omega)]; exact a3, ⟨SU_eq b1 (k _ _ (by omega) (by omega)), SN_eq b2 (k _ _ (by omega) (by omega)), b3⟩, ?_, by rw [e X (by omega) (by omega) (by omega)]; exact a6, by rw [e (X + 119) (by omega) (by omega) (by omega)]; exact a7, ⟨ht, by decide, fun i hi => absurd (show i < 0 from hi) (by omega)⟩, hr, by rw [e (X + 4) (by omega) (by omega) (by omega), e (X + 5) (by omega) (by omega) (by omega)]; exact a10⟩, FW_eq hF (fun i hi => k _ _ (by have := fpl_in (X := X) hi; omega) (by have := fpl_in (X := X) hi; omega)), h0, hS, hH⟩
  unfold sush
  rw [e1]
  refine ⟨⟨c1.1, fun j h1 h2 => by rw [e3 _ _ (by omega)]; exact c1.2.1 j h1 h2, c1.2.2⟩, ⟨c2.1, fun j h1 h2 => by rw [e3 _ _ (by omega)]; exact c2.2.1 j h1 h2, c2.2.2⟩⟩
theorem CI_PSh (hR : CR σ X w P nm S.isSome H.length q tx er ea ou) (hT : TB tx) : PSh (zuR σ (X + 3) 3 (some (X + (22 - w)))) X (X + (22 - w)) tx := by
  obtain ⟨a1, a2, a3, ⟨b1, b2, b3⟩, ⟨c1, c2⟩, a6, a7, a8, a9, a10⟩ := hR
  have hu : sush σ (X + (22 - w)) := by
    rcases a2 with rfl | rfl
    · exact c2
    · exact c1
  refine ⟨a1.2.2.2.2.2.1, ⟨?_, ?_⟩, ⟨a1.2.2.2.1.1, ?_, a1.2.2.2.1.2.2⟩, ⟨hu.1, fun j h1 h2 => ?_, hu.2.2⟩, by omega, a8, hT⟩
  · rw [zuR_row, if_neg (by omega)]
    exact a1.2.2.2.2.2.2
  · rw [zuR_row, if_pos ⟨rfl, rfl⟩]
  · rw [zuR_row, if_neg (by omega)]
    exact a1.2.2.2.1.2.1
  · rw [zuR_row, if_neg (by omega)]
    exact hu.2.1 j h1 h2
theorem ca_parse_bad {e : Nat × Nat} (h : CI σ X P nm M H S tx er ea ou) (hT : TB tx) (hp : ppa tx = .inl e) : ∃ τ, fX9_parse σ X = some (τ, zi (-1)) ∧ CI τ X P nm M H S [] e.1 e.2 ou ∧ zfr X (X + 307) σ τ := by
  obtain ⟨w, q, G, hR, hF⟩ := id h
  have hw := hR.2.1
  have hs := hR.1
  have hr := ow_read (σ := σ) hs.2.2.2.2.2.1 (CI_PSh hR hT)
  rw [hp] at hr
  obtain ⟨υ, e1, ⟨p1, p2, p3⟩, p4, p5⟩ := hr
  have r1 : υ.2.2.1 = (zuR σ (X + 3) 3 (some (X + (22 - w)))).2.2.1 := by rw [p2]
  have hin : zgR 8 0 υ X = some (X + 1) := (if_pos (by rw [p1]; exact hs.1)).trans (by rw [r1, zuR_row, if_neg (by omega)]; exact hs.2.1.1)
  refine ⟨zuI υ (X + 1) 1 (zi 0), ?_, CI_bad h hR.2.2.1.2 p1 (fun b i hb => ?_) ?_ (fun a a1 a2 a3 => ?_) ?_ ?_, p1, fun a ha => ⟨?_, ?_, ?_⟩⟩
  · unfold fX9_parse
    rw [cx_pa hs, Option.bind_some, cx_dra hR, Option.bind_some, show ∀ o : Option (zS × Int32), zck 5 σ (X + 3) o = o from fun o => if_pos hs.2.2.2.2.2.1, e1, Option.bind_some, hin, Option.bind_some, show zpI 2 1 υ (X + 1) (zi 0) = some (zuI υ (X + 1) 1 (zi 0)) from if_pos (by rw [p1]; exact hs.2.2.2.1.1), Option.bind_some]
    exact if_pos rfl
  · show υ.2.2.1 b i = _
    rw [r1, zuR_row, if_neg hb]
  · show υ.2.2.2 = _
    rw [p2]
    rfl
  · rw [show (zuI υ (X + 1) 1 (zi 0)).2.1 a = υ.2.1 a from zu_off _ _ _ a1, p3 a a2 a3]
    rfl
  · rw [zuI_rd, if_pos rfl]
  · rw [show (zuI υ (X + 1) 1 (zi 0)).2.1 (X + 3) = υ.2.1 (X + 3) from zu_off _ _ _ (by omega)]
    exact ⟨p4, p5⟩
  · rw [show (zuI υ (X + 1) 1 (zi 0)).2.1 a = υ.2.1 a from zu_off _ _ _ (by omega), p3 a (by omega) (by omega)]
    rfl
  · show υ.2.2.1 a = _
    rw [r1]
    funext i
    rw [zuR_row, if_neg (by omega)]
  · show υ.2.2.2 a = _
    rw [p2]
    rfl
theorem ca_parse (h : CI σ X P nm M H S tx er ea ou) (hT : TB tx) (hp : ppa tx = .inr D) : ∃ τ, fX9_parse σ X = some (τ, zi D.1) ∧ CI τ X (pP D) D.2.2.2.2.1 (pM D) [] none [] 0 (-1) ou ∧ zfr X (X + 307) σ τ := by
  obtain ⟨w, q, G, hR, hF, -⟩ := id h
  have hw := hR.2.1
  have hs := hR.1
  have hps := CI_PSh hR hT
  obtain ⟨d1, d2, d3, d4⟩ := ppa_ok (plen hps) hp
  have hr := ow_read (σ := σ) hs.2.2.2.2.2.1 hps
  rw [hp] at hr
  obtain ⟨υ, e1, ⟨p1, p2, p3⟩, p4, hSU, hPD⟩ := hr
  obtain ⟨u, hu⟩ : ∃ u, u = X + (22 - w) := ⟨_, rfl⟩
  rw [← hu] at e1 p2 p3 hSU hPD hps
  have r1 : υ.2.2.1 = (zuR σ (X + 3) 3 (some u)).2.2.1 := by rw [p2]
  have rr : ∀ b i, ¬ (b = X + 3 ∧ i = 3) → υ.2.2.1 b i = σ.2.2.1 b i := fun b i hb => by rw [r1, zuR_row, if_neg hb]
  have hin : zgR 8 0 υ X = some (X + 1) := (if_pos (by rw [p1]; exact hs.1)).trans (by rw [rr _ _ (by omega)]; exact hs.2.1.1)
  -- the state in which the flow starts
  obtain ⟨s9, hs9⟩ : ∃ s9, s9 = zuR (zuR (zuI υ (X + 1) 1 (zi 0)) X 8 (some u)) X 9 (some (X + w)) := ⟨_, rfl⟩
  have k9 : s9.1 = σ.1 := by rw [hs9]; exact p1
  have i9 : ∀ a, a ≠ X + 1 → s9.2.1 a = υ.2.1 a := fun a ha => by
    rw [hs9]
    exact zu_off _ _ _ ha
  have f9 : ∀ b i, ¬ (b = X + 3 ∧ i = 3) → ¬ (b = X ∧ i = 8) → ¬ (b = X ∧ i = 9) → s9.2.2.1 b i = σ.2.2.1 b i := fun b i b1 b2 b3 => by
    rw [hs9, zuR_row, if_neg b3, zuR_row, if_neg b2]
    exact rr b i b1
  have j9 : s9.2.2.2 = σ.2.2.2 := by
    rw [hs9]
    show υ.2.2.2 = _
    rw [p2]
    rfl
  have z9 : ∀ lo hi, X + 6 ≤ lo → (hi ≤ u ∨ u + 10 ≤ lo) → zeq σ s9 lo hi := fun lo hi hl hd a h1 h2 => ⟨by rw [k9], by rw [i9 a (by omega), p3 a (by omega) (by omega)]; rfl, funext fun i => f9 a i (by omega) (by omega) (by omega), by rw [j9]⟩
  have zu9 : zeq υ s9 u (u + 10) := fun a h1 h2 => ⟨by rw [k9, p1]; rfl, i9 a (by omega), funext fun i => by rw [f9 a i (by omega) (by omega) (by omega), rr a i (by omega)], by rw [j9, p2]; rfl⟩
  have hsu9 : sush s9 u := by
    have := hps.2.2.2.1
    refine ⟨by rw [k9]; exact this.1, fun j h1 h2 => ?_, by rw [k9]; exact this.2.2⟩
    rw [f9 _ _ (by omega) (by omega) (by omega)]
    have h3 := this.2.1 j h1 h2
    rwa [zuR_row, if_neg (by omega)] at h3
  have hPD9 : PD s9 u D := by
    unfold PD NM
    rw [i9 u (by omega), i9 (u + 1) (by omega), i9 (u + 2) (by omega), i9 (u + 3) (by omega), i9 (u + 4) (by omega), i9 (u + 5) (by omega), i9 (u + 6) (by omega)]
    exact hPD
  obtain ⟨V, b, v, hf, hb, -⟩ := hF 0 (by omega)
  have hf9 : fis s9 (fpl X 0) V b v := fis_eq hf (z9 _ _ (by have := fpl_in (X := X) (i := 0) (by omega); omega) (by have := fpl_in (X := X) (i := 0) (by omega); omega))
  have hself := fput_self hf9
  have hfp := fpl_in (X := X) (i := 0) (by omega)
  obtain ⟨W, e2, hW⟩ := k_start (V := V) (b := b) (v := v) hf9.1 hb (by omega) hsu9 hPD9 (pDok_v d1)
  rw [hself] at e2
  obtain ⟨t, ht⟩ : ∃ t, t = fput s9 (fpl X 0) W b u := ⟨_, rfl⟩
  rw [← ht] at e2
  have kt : t.1 = σ.1 := by rw [ht]; exact k9
  have frt : zfr (fpl X 0) (fpl X 0 + 31) s9 t := by rw [ht]; exact zfr_put
  have zt9 : ∀ lo hi, (hi ≤ fpl X 0 ∨ fpl X 0 + 31 ≤ lo) → zeq s9 t lo hi := fun lo hi hd => zfr_eq frt (by omega)
  have tX : t.2.1 X = s9.2.1 X ∧ t.2.2.1 X = s9.2.2.1 X := ⟨(zt9 X (X + 1) (by omega) X (by omega) (by omega)).2.1, (zt9 X (X + 1) (by omega) X (by omega) (by omega)).2.2.1⟩
  have t8 : t.2.2.1 X 8 = some u := by
    rw [tX.2, hs9, zuR_row, if_neg (by omega), zuR_row, if_pos ⟨rfl, rfl⟩]
  have t9 : t.2.2.1 X 9 = some (X + w) := by
    rw [tX.2, hs9, zuR_row, if_pos ⟨rfl, rfl⟩]
  have tr : ∀ j, j < 7 → t.2.2.1 X j = σ.2.2.1 X j := fun j hj => by rw [tX.2, f9 _ _ (by omega) (by omega) (by omega)]
  have k119 : (t.1 (X + 119)).1 = 11 := by rw [kt]; exact hs.2.2.1.1
  obtain ⟨y, hy⟩ : ∃ y, y = zuI (zuI t (X + 119) 0 (zi 0)) X 7 (zi 0) := ⟨_, rfl⟩
  have yi : ∀ a, a ≠ X → a ≠ X + 119 → y.2.1 a = t.2.1 a := fun a a1 a2 => by
    rw [hy]
    exact (show _ = _ from zu_off _ _ _ a1).trans (zu_off _ _ _ a2)
  have zy : ∀ lo hi, (hi ≤ X ∨ X + 1 ≤ lo) → (hi ≤ X + 119 ∨ X + 120 ≤ lo) → zeq t y lo hi := fun lo hi h1 h2 a a1 a2 => ⟨by rw [hy]; rfl, yi a (by omega) (by omega), by rw [hy]; rfl, by rw [hy]; rfl⟩
  have y2 : y.2.2 = t.2.2 := by rw [hy]; rfl
  have y1 : y.1 = t.1 := by rw [hy]; rfl
  have tio : ∀ a, X + 1 ≤ a → a < X + 6 → y.2.1 a = s9.2.1 a := fun a a1 a2 => by
    rw [yi a (by omega) (by omega)]
    exact (zt9 (X + 1) (X + 6) (by omega) a a1 a2).2.1
  have zuy : zeq υ y u (u + 10) := fun a h1 h2 => by
    obtain ⟨x1, x2, x3, x4⟩ := zu9 a h1 h2
    obtain ⟨x5, x6, x7, x8⟩ := zt9 u (u + 10) (by omega) a h1 h2
    obtain ⟨x9, x10, x11, x12⟩ := zy u (u + 10) (by omega) (by omega) a h1 h2
    exact ⟨x9.trans (x5.trans x1), x10.trans (x6.trans x2), x11.trans (x7.trans x3), x12.trans (x8.trans x4)⟩
  have su2 := fun (v : Nat) (hv : v = X + 6 ∨ v = X + 16) (hσ : sush σ v) => (show sush y v from ⟨by rw [y1, kt]; exact hσ.1, fun j h1 h2 => by
    rw [y2, (zt9 v (v + 10) (by omega) v (by omega) (by omega)).2.2.1, f9 _ _ (by omega) (by omega) (by omega)]
    exact hσ.2.1 j h1 h2, by rw [y1, kt]; exact hσ.2.2⟩)
  have hu616 : u = X + 6 ∧ w = 16 ∨ u = X + 16 ∧ w = 6 := by omega
  refine ⟨y, ?_, ⟨22 - w, q, qu (fun _ => none) 0 (some (pM D)), ⟨?_, by omega, ⟨?_, ?_⟩, ⟨?_, ?_, d3⟩, ⟨su2 _ (Or.inl rfl) hR.2.2.2.2.1.1, su2 _ (Or.inr rfl) hR.2.2.2.2.1.2⟩, ?_, ⟨?_, ?_, by show 0 ≤ 6; omega, hR.2.2.2.2.2.2.1.2.2.2⟩, ⟨?_, by show 0 ≤ 300; omega, fun i hi => absurd (show i < 0 from hi) (by omega)⟩, ?_, ?_⟩, ?_, qu_at _ _ _, fun N hN => (by cases hN), fun k hk => absurd (show k < 0 from hk) (by omega)⟩, ?_⟩
  · unfold fX9_parse
    have hu0 := hR.2.2.1.2
    rw [cx_pa hs, Option.bind_some, cx_dra hR, ← hu, Option.bind_some, show ∀ o : Option (zS × Int32), zck 5 σ (X + 3) o = o from fun o => if_pos hs.2.2.2.2.2.1, e1, Option.bind_some, hin, Option.bind_some, show zpI 2 1 υ (X + 1) (zi 0) = some (zuI υ (X + 1) 1 (zi 0)) from if_pos (by rw [p1]; exact hs.2.2.2.1.1), Option.bind_some]
    dsimp only
    have kX : ((zuI υ (X + 1) 1 (zi 0)).1 X).1 = 13 := by
      show (υ.1 X).1 = 13
      rw [p1]
      exact hs.1
    have c8 : zgR 8 8 (zuI υ (X + 1) 1 (zi 0)) X = some (X + w) := (if_pos kX).trans (by
      show υ.2.2.1 X 8 = _
      rw [rr _ _ (by omega)]
      exact hR.2.2.1.1)
    have c9 : zgR 8 9 (zuI υ (X + 1) 1 (zi 0)) X = some u := (if_pos kX).trans (by
      show υ.2.2.1 X 9 = _
      rw [rr _ _ (by omega), hu0, hu])
    rw [if_neg z10, c8, Option.bind_some, c9, Option.bind_some, show zpR 8 8 (zuI υ (X + 1) 1 (zi 0)) X (some u) = some (zuR (zuI υ (X + 1) 1 (zi 0)) X 8 (some u)) from if_pos kX, Option.bind_some, show zpR 8 9 (zuR (zuI υ (X + 1) 1 (zi 0)) X 8 (some u)) X (some (X + w)) = some (zuR (zuR (zuI υ (X + 1) 1 (zi 0)) X 8 (some u)) X 9 (some (X + w))) from if_pos kX, Option.bind_some, ← hs9]
    have k9X : (s9.1 X).1 = 13 := by rw [k9]; exact hs.1
    have ktX : (t.1 X).1 = 13 := by rw [kt]; exact hs.1
    have a1 : zgR 8 4 s9 X = some (fpl X 0) := (if_pos k9X).trans (by rw [f9 _ _ (by omega) (by omega) (by omega)]; exact hs.2.1.2.2.2.2.1)
    have a2 : zgR 8 8 s9 X = some u := (if_pos k9X).trans (by rw [hs9, zuR_row, if_neg (by omega), zuR_row, if_pos ⟨rfl, rfl⟩])
    have a3 : zgR 8 3 t X = some (X + 119) := (if_pos ktX).trans (by rw [tr 3 (by omega)]; exact hs.2.1.2.2.2.1)
    rw [a1, Option.bind_some, a2, Option.bind_some, show ∀ o : Option zS, zck 1 s9 (fpl X 0) o = o from fun o => if_pos hf9.1.1, e2, Option.bind_some, a3, Option.bind_some, show ∀ o : Option zS, zck 6 t (X + 119) o = o from fun o => if_pos k119]
    unfold fX6_forget
    rw [show zpI 6 0 t (X + 119) (zi 0) = some (zuI t (X + 119) 0 (zi 0)) from if_pos k119, Option.bind_some, Option.bind_some, show zpZ 8 7 (zuI t (X + 119) 0 (zi 0)) X (zi 0) = some y from (if_pos ⟨ktX, Or.inl rfl⟩).trans (by rw [hy]), Option.bind_some, show zgR 8 8 y X = some u from (if_pos (by rw [y1]; exact ktX)).trans (by rw [y2]; exact t8), Option.bind_some]
    rw [show zgI 7 0 y u = some (y.2.1 u 0) from if_pos (su2 u (by omega) (by rcases hu616 with ⟨rfl, -⟩ | ⟨rfl, -⟩; exact hR.2.2.2.2.1.1; exact hR.2.2.2.2.1.2)).1, (zuy u (by omega) (by omega)).2.1, hPD.1.2]
    rfl
  · refine csh_eq hs (y1.trans kt) (fun j hj => by rw [y2, tr j hj]) (fun j a ha => ?_) ?_
    · rw [y2, (zt9 a (a + 1) (by omega) a (by omega) (by omega)).2.2.1, f9 _ _ (by omega) (by omega) (by omega)]
    · rw [y2, (zt9 (X + 3) (X + 4) (by omega) (X + 3) (by omega) (by omega)).2.2.1, f9 _ _ (by omega) (by omega) (by omega)]
  · rw [y2, t8, hu]
  · rw [y2, t9, show 22 - (22 - w) = w by omega]
  · rw [← hu]
    exact SU_eq hSU zuy
  · rw [← hu]
    intro s hs4
    have h4 : s < 4 := by have := d1.1; have : s < D.1 := hs4; omega
    obtain ⟨n1, n2, n3⟩ := hPD.2.2.1 s hs4
    rw [(zuy (u + 2) (by omega) (by omega)).2.1, (zuy (u + 4) (by omega) (by omega)).2.1, (zuy (u + 5) (by omega) (by omega)).2.1]
    exact ⟨(hPD.2.1 s h4).2.1, n1, n2, n3⟩
  · rw [hy, zuI_rd, if_pos rfl]
    rfl
  · rw [hy, zuI_row, if_neg (by omega), zuI_row, if_pos ⟨rfl, rfl⟩]
    rfl
  · rw [hy, zuI_row, if_neg (by omega), zuI_row, if_neg (by omega), (zt9 (X + 119) (X + 120) (by right; unfold fpl; rw [if_pos (by omega)]; omega) (X + 119) (by omega) (by omega)).2.1, (z9 (X + 119) (X + 120) (by omega) (by omega) (X + 119) (by omega) (by omega)).2.1]
    exact hR.2.2.2.2.2.2.1.2.1
  · rw [tio _ (by omega) (by omega), hs9]
    show (zuI υ (X + 1) 1 (zi 0)).2.1 (X + 1) 1 = _
    rw [zuI_rd, if_pos rfl]
    rfl
  · rw [tio _ (by omega) (by omega), i9 _ (by omega)]
    exact p4
  · rw [tio _ (by omega) (by omega), tio _ (by omega) (by omega), i9 _ (by omega), i9 _ (by omega), p3 (X + 4) (by omega) (by omega), p3 (X + 5) (by omega) (by omega)]
    exact hR.2.2.2.2.2.2.2.2.2
  · rw [← hu]
    intro i hi
    have hi2 := fpl_in (X := X) hi
    by_cases e0 : i = 0
    · subst e0
      refine ⟨W, b, u, fis_eq (by rw [ht]; exact fis_put hf9.1) (zy _ _ (by omega) (by omega)), hb, fun N hN => ?_⟩
      rw [qu_at] at hN
      cases hN
      exact ⟨rfl, hW⟩
    · obtain ⟨V2, b2, v2, g1, g2, -⟩ := hF i hi
      refine ⟨V2, b2, v2, fis_eq (fis_eq (fis_eq g1 (z9 _ _ (by omega) (by omega))) (zt9 _ _ ?_)) (zy _ _ (by omega) (by omega)), g2, fun N hN => ?_⟩
      · have := fpl_apart (X := X) (i := i) (j := 0) e0
        unfold fapart at this
        omega
      · rw [qu_ne e0] at hN
        cases hN
  · refine ⟨y1.trans kt, fun a ha => ⟨?_, ?_, ?_⟩⟩
    · rw [yi a (by omega) (by omega), (zt9 a (a + 1) (by omega) a (by omega) (by omega)).2.1, i9 a (by omega), p3 a (by omega) (by omega)]
      rfl
    · rw [y2, (zt9 a (a + 1) (by omega) a (by omega) (by omega)).2.2.1]
      funext i
      exact f9 a i (by omega) (by omega) (by omega)
    · rw [y2, (zt9 a (a + 1) (by omega) a (by omega) (by omega)).2.2.2, j9]
end PK
