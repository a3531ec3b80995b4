/-! Lists, checkpoints, setups and flows are made. -/
section NL
variable {σ : zS} {x : Nat}
theorem n_clear {i : Nat} (h8 : (σ.1 x).1 = 8) (k1 : σ.1 (x + 2) = (1, 30)) (k2 : σ.1 (x + 3) = (1, 30)) (k3 : σ.1 (x + 4) = (1, 30)) (r1 : σ.2.2.1 x 1 = some (x + 2)) (r2 : σ.2.2.1 x 2 = some (x + 3)) (r3 : σ.2.2.1 x 3 = some (x + 4)) (hi : i < 30) : fX3_clear σ x (zi (i : Int)) = some (zuI (zuI (zuI σ (x + 2) i (zi (-1))) (x + 3) i (zi (-1))) (x + 4) i (zi 0)) := by
  unfold fX3_clear
  rw [if_neg (by rw [zi_lt (by omega) (by omega) (by omega) (by omega)]; omega), if_neg (zi_nle (by omega) (by omega) (by omega)), zgR_of h8 r1, Option.bind_some, zsI_of i k1 rfl hi (by omega), Option.bind_some]
  rw [zgR_of (σ := zuI σ (x + 2) i (zi (-1))) h8 r2, Option.bind_some, zsI_of (σ := zuI σ (x + 2) i (zi (-1))) i k2 rfl hi (by omega), Option.bind_some]
  rw [zgR_of (σ := zuI (zuI σ (x + 2) i (zi (-1))) (x + 3) i (zi (-1))) h8 r3, Option.bind_some, zsI_of (σ := zuI (zuI σ (x + 2) i (zi (-1))) (x + 3) i (zi (-1))) i k3 rfl hi (by omega), Option.bind_some]
theorem n_clearAll (h8 : (σ.1 x).1 = 8) (k1 : σ.1 (x + 2) = (1, 30)) (k2 : σ.1 (x + 3) = (1, 30)) (k3 : σ.1 (x + 4) = (1, 30)) (r1 : σ.2.2.1 x 1 = some (x + 2)) (r2 : σ.2.2.1 x 2 = some (x + 3)) (r3 : σ.2.2.1 x 3 = some (x + 4)) : ∃ τ, fX3_clearAll σ x = some τ ∧ τ.1 = σ.1 ∧ τ.2.2 = σ.2.2 ∧ ∀ a, (a < x ∨ x + 5 ≤ a) → τ.2.1 a = σ.2.1 a := by
  unfold fX3_clearAll
  obtain ⟨y, hy, hq⟩ := zloop_run (step := sX3_clearAll_2 x) (s := (σ, zi 0)) (fuel := zfuel) 30
    (fun i s => s.2 = zi (i : Int) ∧ s.1.1 = σ.1 ∧ s.1.2.2 = σ.2.2 ∧ ∀ a, (a < x ∨ x + 5 ≤ a) → s.1.2.1 a = σ.2.1 a)
    (fun y => y.1 = σ.1 ∧ y.2.2 = σ.2.2 ∧ ∀ a, (a < x ∨ x + 5 ≤ a) → y.2.1 a = σ.2.1 a)
    (fun i s hi hs => by
      obtain ⟨s, j⟩ := s
      obtain ⟨rfl, e1, e2, e3⟩ := hs
      dsimp only at e1 e2 e3
      refine Or.inl ⟨(zuI (zuI (zuI s (x + 2) i (zi (-1))) (x + 3) i (zi (-1))) (x + 4) i (zi 0), zi ((i : Int) + 1)), ?_, rfl, e1, e2, fun a ha => ?_⟩
      · unfold sX3_clearAll_2 sX3_clearAll_2b
        dsimp only
        rw [if_neg (zi_nle (by omega) (by omega) (by omega)), show ∀ o : Option zS, zck 3 s x o = o from fun o => if_pos (by rw [e1]; exact h8), n_clear (by rw [e1]; exact h8) (by rw [e1]; exact k1) (by rw [e1]; exact k2) (by rw [e1]; exact k3) (by rw [e2]; exact r1) (by rw [e2]; exact r2) (by rw [e2]; exact r3) hi, Option.bind_some, zi_add]
      · rw [← e3 a ha]
        dsimp only
        unfold zuI
        dsimp only
        rw [zu_off _ _ _ (by omega), zu_off _ _ _ (by omega), zu_off _ _ _ (by omega)])
    (fun s hs => by
      obtain ⟨s, j⟩ := s
      obtain ⟨rfl, e1, e2, e3⟩ := hs
      refine ⟨s, ?_, e1, e2, e3⟩
      unfold sX3_clearAll_2 sX3_clearAll_2b
      dsimp only
      rw [if_pos (by rw [zi_le (by omega) (by omega) (by omega) (by omega)]; omega)])
    (zfuel_lt (by omega)) ⟨rfl, rfl, rfl, fun _ _ => rfl⟩
  exact ⟨y, by rw [hy, Option.bind_some], hq⟩
abbrev KX3 : List (Nat × Nat × Nat) := [(0, 8, 0), (1, 1, 800), (2, 1, 30), (3, 1, 30), (4, 1, 30)]
abbrev QX3 : List (Nat × Nat × Nat) := [(0, 0, 1), (0, 1, 2), (0, 2, 3), (0, 3, 4)]
theorem n_X3 (h : σ.1 x = (8, 0)) : ∃ τ, gX3_init σ (x + 1) x = some τ ∧ zgr x (x + 5) σ τ ∧ SK x τ KX3 QX3 [] ∧ True := by
  unfold gX3_init
  simp only [Nat.add_assoc, Nat.reduceAdd]
  refine st_arr (o := 0) (n := 1) (hi := 5) (SK_nil h) zgr_refl 8 (by decide) rfl (by omega) (by omega) (by decide) (by decide) (by decide) (by decide) (by omega) (fun σ1 h1 g1 => ?_)
  refine st_arr (o := 0) (n := 2) (hi := 5) h1 g1 8 (by decide) rfl (by omega) (by omega) (by decide) (by decide) (by decide) (by decide) (by omega) (fun σ2 h2 g2 => ?_)
  refine st_arr (o := 0) (n := 3) (hi := 5) h2 g2 8 (by decide) rfl (by omega) (by omega) (by decide) (by decide) (by decide) (by decide) (by omega) (fun σ3 h3 g3 => ?_)
  refine st_arr (o := 0) (n := 4) (hi := 5) h3 g3 8 (by decide) rfl (by omega) (by omega) (by decide) (by decide) (by decide) (by decide) (by omega) (fun σ4 h4 g4 => ?_)
  have k0 : σ4.1 x = (8, 0) := SK_k h4 0 (8, 0) (by decide)
  obtain ⟨τ, e1, e2, e3, e4⟩ := n_clearAll (by rw [k0]) (SK_k h4 2 (1, 30) (by decide)) (SK_k h4 3 (1, 30) (by decide)) (SK_k h4 4 (1, 30) (by decide)) (SK_r h4 0 1 2 (by decide)) (SK_r h4 0 2 3 (by decide)) (SK_r h4 0 3 4 (by decide))
  refine ⟨τ, by rw [show ∀ o : Option zS, zck 3 σ4 x o = o from fun o => if_pos (by rw [k0]), e1, Option.bind_some], zgr_trans g4 (fun a ha => ⟨by rw [e2], e4 a ha, by rw [e3], by rw [e3]⟩), SK_sub (SK_kd h4 e2 (by rw [e3])) (by decide) (by decide) (by decide), trivial⟩
abbrev KX0 : List (Nat × Nat × Nat) := [(0, 5, 0), (1, 1, 6), (2, 1, 4), (3, 1, 16), (4, 8, 0), (5, 1, 800), (6, 1, 30), (7, 1, 30), (8, 1, 30)]
abbrev QX0 : List (Nat × Nat × Nat) := [(0, 7, 1), (0, 8, 2), (0, 9, 3), (0, 10, 4), (4, 0, 5), (4, 1, 6), (4, 2, 7), (4, 3, 8)]
theorem n_X0 (h : σ.1 x = (5, 0)) : ∃ τ, gX0_init σ (x + 1) x = some τ ∧ zgr x (x + 9) σ τ ∧ SK x τ KX0 QX0 [] ∧ True := by
  unfold gX0_init
  simp only [Nat.add_assoc, Nat.reduceAdd]
  refine st_arr (o := 0) (n := 1) (hi := 9) (SK_nil h) zgr_refl 5 (by decide) rfl (by omega) (by omega) (by decide) (by decide) (by decide) (by decide) (by omega) (fun σ1 h1 g1 => ?_)
  refine st_arr (o := 0) (n := 2) (hi := 9) h1 g1 5 (by decide) rfl (by omega) (by omega) (by decide) (by decide) (by decide) (by decide) (by omega) (fun σ2 h2 g2 => ?_)
  refine st_arr (o := 0) (n := 3) (hi := 9) h2 g2 5 (by decide) rfl (by omega) (by omega) (by decide) (by decide) (by decide) (by decide) (by omega) (fun σ3 h3 g3 => ?_)
  refine st_sub (n := 4) (len := 5) (hi := 9) (g9 := fun s => gX3_init s (x + 4 + 1) (x + 4)) h3 g3 [] (by omega) (by omega) (by decide) (by decide) (by decide) (n_X3 znew_k) (fun σ4 h4 g4 _ _ => ?_)
  refine st_put (o := 0) (n := 4) (hi := 9) h4 g4 5 (by decide) rfl (by omega) (by decide) (fun σ5 h5 g5 _ => ?_)
  exact ⟨σ5, rfl, g5, SK_sub h5 (by decide) (by decide) (by decide), trivial⟩
abbrev KX1 : List (Nat × Nat × Nat) := [(0, 6, 0), (1, 1, 4), (2, 1, 4), (3, 1, 16), (4, 1, 4), (5, 1, 6), (6, 8, 0), (7, 1, 800), (8, 1, 30), (9, 1, 30), (10, 1, 30), (11, 5, 0), (12, 1, 6), (13, 1, 4), (14, 1, 16), (15, 8, 0), (16, 1, 800), (17, 1, 30), (18, 1, 30), (19, 1, 30), (20, 5, 0), (21, 1, 6), (22, 1, 4), (23, 1, 16), (24, 8, 0), (25, 1, 800), (26, 1, 30), (27, 1, 30), (28, 1, 30), (29, 1, 6), (30, 1, 24)]
abbrev QX1 : List (Nat × Nat × Nat) := [(0, 9, 1), (0, 10, 2), (0, 11, 3), (0, 12, 4), (0, 13, 5), (0, 14, 6), (0, 15, 11), (0, 16, 20), (0, 18, 29), (0, 19, 30), (6, 0, 7), (6, 1, 8), (6, 2, 9), (6, 3, 10), (11, 7, 12), (11, 8, 13), (11, 9, 14), (11, 10, 15), (15, 0, 16), (15, 1, 17), (15, 2, 18), (15, 3, 19), (20, 7, 21), (20, 8, 22), (20, 9, 23), (20, 10, 24), (24, 0, 25), (24, 1, 26), (24, 2, 27), (24, 3, 28)]
theorem fsh_of {f : Nat} (h : SK f σ KX1 QX1 []) : fsh σ f := by
  have K : ∀ o, o < 31 → 0 < flen o → (o, 1, flen o) ∈ KX1 := by decide
  refine ⟨?_, ⟨?_, ?_⟩, ⟨?_, ?_, ?_⟩, fun o ho hl => SK_k h o (1, flen o) (K o ho hl), ⟨SK_r h 0 9 1 (by decide), SK_r h 0 10 2 (by decide), SK_r h 0 11 3 (by decide), SK_r h 0 12 4 (by decide), SK_r h 0 13 5 (by decide), SK_r h 0 14 6 (by decide), SK_r h 0 18 29 (by decide), SK_r h 0 19 30 (by decide)⟩, fun y hy => ?_, fun o j ho hj => ?_⟩
  · exact congrArg Prod.fst (SK_k h 0 (6, 0) (by decide))
  · rw [SK_k h 11 (5, 0) (by decide)]
  · rw [SK_k h 20 (5, 0) (by decide)]
  · rw [SK_k h 6 (8, 0) (by decide)]
  · rw [SK_k h 15 (8, 0) (by decide)]
  · rw [SK_k h 24 (8, 0) (by decide)]
  · rcases hy with rfl | rfl
    · exact ⟨SK_r h 11 7 12 (by decide), SK_r h 11 8 13 (by decide), SK_r h 11 9 14 (by decide), SK_r h 11 10 15 (by decide)⟩
    · exact ⟨SK_r h 20 7 21 (by decide), SK_r h 20 8 22 (by decide), SK_r h 20 9 23 (by decide), SK_r h 20 10 24 (by decide)⟩
  · have L : ∀ o j, (o = 6 ∨ o = 15 ∨ o = 24) → j < 4 → (o, j, o + 1 + j) ∈ QX1 := by
      intro o j ho hj
      have : j = 0 ∨ j = 1 ∨ j = 2 ∨ j = 3 := by omega
      rcases ho with rfl | rfl | rfl <;> rcases this with rfl | rfl | rfl | rfl <;> decide
    exact SK_r h o j (o + 1 + j) (L o j ho hj)
/-- a flow as it is made, with what it holds -/
def FZ (σ : zS) (f u : Nat) (D : pD) : Prop := ∃ V, fis σ f V 11 u ∧ RC V 11 (pM D)
theorem FZ_gr {τ : zS} {f u lo hi : Nat} {D : pD} (h : FZ σ f u D) (g : zgr lo hi σ τ) (hd : f + 31 ≤ lo ∨ hi ≤ f) : FZ τ f u D := by
  obtain ⟨V, h1, h2⟩ := h
  exact ⟨V, fis_eq h1 (zgr_eq g (by omega)), h2⟩
theorem n_start {f u : Nat} {D : pD} (h : SK f σ KX1 QX1 []) (hu : u + 10 ≤ f ∨ f + 31 ≤ u) (hs : sush σ u) (hD : PD σ u D) (hv : ∀ k v, D.2.2.2.2.2 k = some v → v < 1000) : ∃ τ, fX1_start σ f u = some τ ∧ zgr f (f + 31) σ τ ∧ FZ τ f u D := by
  have hS := fsh_of h
  obtain ⟨s, hs9⟩ : ∃ s, s = zuR σ f 17 (some u) := ⟨_, rfl⟩
  have g9 : zgr f (f + 1) σ s := by rw [hs9]; exact zgr_fr zfr_R
  have k9 : s.1 = σ.1 := by rw [hs9]; rfl
  have r9 : ∀ a j, ¬ (a = f ∧ j = 17) → s.2.2.1 a j = σ.2.2.1 a j := fun a j ha => by rw [hs9]; exact if_neg ha
  have hS9 : fsh s f := by
    obtain ⟨a1, a2, a3, a4, a5, a6, a7⟩ := hS
    refine ⟨by rw [k9]; exact a1, by rw [k9]; exact a2, by rw [k9]; exact a3, fun o => by rw [k9]; exact a4 o, ?_, fun y hy => ?_, fun o j ho hj => ?_⟩
    · rw [r9 _ _ (by omega), r9 _ _ (by omega), r9 _ _ (by omega), r9 _ _ (by omega), r9 _ _ (by omega), r9 _ _ (by omega), r9 _ _ (by omega), r9 _ _ (by omega)]
      exact a5
    · rw [r9 _ _ (by omega), r9 _ _ (by omega), r9 _ _ (by omega), r9 _ _ (by omega)]
      exact a6 y hy
    · rw [r9 _ _ (by omega)]
      exact a7 o j ho hj
  have hf9 : fis s f (fun o => s.2.1 (f + o)) 11 u := ⟨hS9, fun o _ => rfl, by rw [r9 _ _ (by omega)]; exact SK_r h 0 15 11 (by decide), by rw [r9 _ _ (by omega)]; exact SK_r h 0 16 20 (by decide), by rw [hs9]; exact if_pos ⟨rfl, rfl⟩⟩
  have hself := fput_self hf9
  obtain ⟨W, e2, hW⟩ := k_start (σ := s) (f := f) (b := 11) (u := u) (V := fun o => s.2.1 (f + o)) (v := u) hS9 (Or.inl rfl) hu (sush_eq hs (zgr_eq g9 (by omega))) (by
    have e : ∀ o, o < 10 → s.2.1 (u + o) = σ.2.1 (u + o) := fun o ho => by rw [hs9]; rfl
    have e0 := e 0 (by omega)
    unfold PD NM
    rw [show s.2.1 u = σ.2.1 u from e0, e 1 (by omega), e 2 (by omega), e 3 (by omega), e 4 (by omega), e 5 (by omega), e 6 (by omega)]
    exact hD) hv
  rw [hself] at e2
  have e3 : fX1_start σ f u = fX1_start s f u := by
    unfold fX1_start
    rw [zpR_of (σ := σ) hS.1, zpR_of (σ := s) hS9.1, Option.bind_some, Option.bind_some]
    have : zuR s f 17 (some u) = zuR σ f 17 (some u) := by
      refine Prod.ext k9 (Prod.ext (by rw [hs9]; rfl) (Prod.ext ?_ (by rw [hs9]; rfl)))
      funext a j
      show (if a = f ∧ j = 17 then some u else s.2.2.1 a j) = if a = f ∧ j = 17 then some u else σ.2.2.1 a j
      by_cases e : a = f ∧ j = 17
      · rw [if_pos e, if_pos e]
      · rw [if_neg e, if_neg e]
        exact r9 a j e
    rw [this]
  exact ⟨fput s f W 11 u, by rw [e3]; exact e2, zgr_trans (zgr_wide g9 (by omega) (by omega)) (zgr_fr zfr_put), W, fis_put hS9, hW⟩
theorem n_X1 {f u : Nat} {D : pD} (h : σ.1 f = (6, 0)) (hu : u + 10 ≤ f ∨ f + 31 ≤ u) (hs : sush σ u) (hD : PD σ u D) (hv : ∀ k v, D.2.2.2.2.2 k = some v → v < 1000) : ∃ τ, gX1_init σ (f + 1) f u = some τ ∧ zgr f (f + 31) σ τ ∧ SK f τ [] [] [] ∧ FZ τ f u D := by
  unfold gX1_init
  simp only [Nat.add_assoc, Nat.reduceAdd]
  refine st_arr (o := 0) (n := 1) (hi := 31) (SK_nil h) zgr_refl 6 (by decide) rfl (by omega) (by omega) (by decide) (by decide) (by decide) (by decide) (by omega) (fun σ1 h1 g1 => ?_)
  refine st_arr (o := 0) (n := 2) (hi := 31) h1 g1 6 (by decide) rfl (by omega) (by omega) (by decide) (by decide) (by decide) (by decide) (by omega) (fun σ2 h2 g2 => ?_)
  refine st_arr (o := 0) (n := 3) (hi := 31) h2 g2 6 (by decide) rfl (by omega) (by omega) (by decide) (by decide) (by decide) (by decide) (by omega) (fun σ3 h3 g3 => ?_)
  refine st_arr (o := 0) (n := 4) (hi := 31) h3 g3 6 (by decide) rfl (by omega) (by omega) (by decide) (by decide) (by decide) (by decide) (by omega) (fun σ4 h4 g4 => ?_)
  refine st_arr (o := 0) (n := 5) (hi := 31) h4 g4 6 (by decide) rfl (by omega) (by omega) (by decide) (by decide) (by decide) (by decide) (by omega) (fun σ5 h5 g5 => ?_)
  refine st_sub (n := 6) (len := 5) (hi := 31) (g9 := fun s => gX3_init s (f + 6 + 1) (f + 6)) h5 g5 [] (by omega) (by omega) (by decide) (by decide) (by decide) (n_X3 znew_k) (fun σ6 h6 g6 _ _ => ?_)
  refine st_put (o := 0) (n := 6) (hi := 31) h6 g6 6 (by decide) rfl (by omega) (by decide) (fun σ7 h7 g7 _ => ?_)
  refine st_sub (n := 11) (len := 9) (hi := 31) (g9 := fun s => gX0_init s (f + 11 + 1) (f + 11)) h7 g7 [] (by omega) (by omega) (by decide) (by decide) (by decide) (n_X0 znew_k) (fun σ8 h8 g8 _ _ => ?_)
  refine st_put (o := 0) (n := 11) (hi := 31) h8 g8 6 (by decide) rfl (by omega) (by decide) (fun σ9 h9 g9 _ => ?_)
  refine st_sub (n := 20) (len := 9) (hi := 31) (g9 := fun s => gX0_init s (f + 20 + 1) (f + 20)) h9 g9 [] (by omega) (by omega) (by decide) (by decide) (by decide) (n_X0 znew_k) (fun σ10 h10 g10 _ _ => ?_)
  refine st_put (o := 0) (n := 20) (hi := 31) h10 g10 6 (by decide) rfl (by omega) (by decide) (fun σ11 h11 g11 _ => ?_)
  refine st_arr (o := 0) (n := 29) (hi := 31) h11 g11 6 (by decide) rfl (by omega) (by omega) (by decide) (by decide) (by decide) (by decide) (by omega) (fun σ12 h12 g12 => ?_)
  refine st_arr (o := 0) (n := 30) (hi := 31) h12 g12 6 (by decide) rfl (by omega) (by omega) (by decide) (by decide) (by decide) (by decide) (by omega) (fun σ13 h13 g13 => ?_)
  have h14 : SK f σ13 KX1 QX1 [] := SK_sub h13 (by decide) (by decide) (by decide)
  have z13 : zeq σ σ13 u (u + 10) := zgr_eq g13 (by omega)
  obtain ⟨τ, e1, e2, e3⟩ := n_start h14 hu (sush_eq hs z13) (by
    have e : ∀ o, o < 10 → σ13.2.1 (u + o) = σ.2.1 (u + o) := fun o ho => (z13 (u + o) (by omega) (by omega)).2.1
    have e0 := e 0 (by omega)
    unfold PD NM
    rw [show σ13.2.1 u = σ.2.1 u from e0, e 1 (by omega), e 2 (by omega), e 3 (by omega), e 4 (by omega), e 5 (by omega), e 6 (by omega)]
    exact hD) hv
  refine ⟨τ, ?_, zgr_trans g13 e2, ⟨fun p hp => (by cases hp), fun p hp => (by cases hp), fun p hp => (by cases hp)⟩, e3⟩
  rw [show ∀ o : Option zS, zck 1 σ13 f o = o from fun o => if_pos (fsh_of h14).1, e1, Option.bind_some]
end NL
