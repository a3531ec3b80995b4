/-! The class's parser: how its steps follow each other. -/
/-- what a step leaves: the draft D and the token behind p -/
def PG (X u : Nat) (tx : List Int32) (σ : zS) (D : pD) (p : Nat) (τ : zS) : Prop := pfr X u σ τ ∧ (∀ j, j < 2 → τ.2.1 (X + 3) j = σ.2.1 (X + 3) j) ∧ PT τ X tx p ∧ PD τ u D ∧ p ≤ tx.length
def OUTg (X u : Nat) (σ : zS) {A : Type} (G : zS → A → Prop) (o : Option (zS × Int32)) (r : (Nat × Nat) ⊕ A) : Prop := match r with | .inr a => ∃ υ, o = some (υ, zi 1) ∧ G υ a | .inl e => ∃ υ, o = some (υ, zi 0) ∧ PBad X u σ υ e
theorem OUT_bind {X u : Nat} {σ : zS} {A B : Type} {G : zS → A → Prop} {G2 : zS → B → Prop} {o : Option (zS × Int32)} {k : zS × Int32 → Option (zS × Int32)} {r : (Nat × Nat) ⊕ A} {g : A → (Nat × Nat) ⊕ B} (h : OUTg X u σ G o r) (h0 : ∀ υ, k (υ, zi 0) = some (υ, zi 0)) (h1 : ∀ υ a, r = .inr a → G υ a → OUTg X u σ G2 (k (υ, zi 1)) (g a)) : OUTg X u σ G2 (o.bind k) (pb r g) := by
  cases r with
  | inl e =>
    obtain ⟨υ, e1, e2⟩ := h
    rw [e1]
    exact ⟨υ, h0 υ, e2⟩
  | inr a =>
    obtain ⟨υ, e1, e2⟩ := h
    rw [e1]
    exact h1 υ a rfl e2
section PR
variable {σ τ υ : zS} {X u p w c : Nat} {tx : List Int32} {D : pD}
theorem PG_sh (h : PSh σ X u tx) (g : PG X u tx σ D p τ) : PSh τ X u tx := PSh_fr h g.1
theorem PG_P {q : Nat} (hu : X + 6 ≤ u) (g : PG X u tx σ D p τ) (e : pfP X τ υ) (ht : PT υ X tx q) (hq : q ≤ tx.length) : PG X u tx σ D q υ := ⟨pfr_trans g.1 (pfP_pfr e), fun j hj => (e.2.2.2 j hj).trans (g.2.1 j hj), ht, PD_P hu g.2.2.2.1 e, hq⟩
theorem pnb_to {a : Nat × Nat} (h : pnb tx w p = .inr a) : a.2 = pT tx p := by
  unfold pnb at h
  split at h
  · split at h
    · cases h
      rfl
    · cases h
  · cases h
theorem pwd_to {a : Nat} (h : pwd tx w p = .inr a) : a = pT tx p := by
  unfold pwd at h
  split at h
  · cases h
    rfl
  · cases h
theorem psm_to {a : Nat} (h : psm tx p = .inr a) : a = pT tx p := by
  unfold psm at h
  split at h
  · cases h
    rfl
  · cases h
theorem pna_to {a : Nat} (h : pna tx D p = .inr a) : a = pT tx p := by
  unfold pna at h
  split at h
  · split at h
    · cases h
    · cases h
      rfl
  · cases h
theorem ow_word (h : PSh σ X u tx) (g : PG X u tx σ D p τ) (hw : w < 9) : OUTg X u σ (fun υ p2 => PG X u tx σ D p2 υ ∧ pfP X τ υ) (fX5_readWord τ (X + 3) w) (pwd tx w p) := by
  have h2 := PG_sh h g
  obtain ⟨a1, a2⟩ := pl_word h2 g.2.2.1 g.2.2.2.2 hw
  cases e : pwd tx w p with
  | inl x =>
    obtain ⟨υ, b1, b2⟩ := a2 x e
    exact ⟨υ, b1, PBad_fr g.1 b2⟩
  | inr x =>
    obtain ⟨υ, b1, b2, b3⟩ := a1 x e
    exact ⟨υ, b1, PG_P h.2.2.2.2.1 g b2 b3 (by rw [pwd_to e]; exact (pT_in g.2.2.2.2).2.1), b2⟩
theorem ow_num (h : PSh σ X u tx) (g : PG X u tx σ D p τ) (hw : w < 9) : OUTg X u σ (fun υ a => PG X u tx σ D a.2 υ ∧ pfP X τ υ ∧ υ.2.1 (X + 3) 7 = zi a.1) (fX5_readNumber τ (X + 3) w) (pnb tx w p) := by
  have h2 := PG_sh h g
  obtain ⟨a1, a2⟩ := pl_num h2 g.2.2.1 g.2.2.2.2 hw
  cases e : pnb tx w p with
  | inl x =>
    obtain ⟨υ, b1, b2⟩ := a2 x e
    exact ⟨υ, b1, PBad_fr g.1 b2⟩
  | inr x =>
    obtain ⟨υ, b1, b2, b3, b4⟩ := a1 x e
    exact ⟨υ, b1, PG_P h.2.2.2.2.1 g b2 b3 (by rw [pnb_to e]; exact (pT_in g.2.2.2.2).2.1), b2, b4⟩
theorem ow_semi (h : PSh σ X u tx) (g : PG X u tx σ D p τ) : OUTg X u σ (fun υ p2 => PG X u tx σ D p2 υ ∧ pfP X τ υ) (fX5_readSemicolon τ (X + 3)) (psm tx p) := by
  have h2 := PG_sh h g
  obtain ⟨a1, a2⟩ := pl_semi h2 g.2.2.1 g.2.2.2.2
  cases e : psm tx p with
  | inl x =>
    obtain ⟨υ, b1, b2⟩ := a2 x e
    exact ⟨υ, b1, PBad_fr g.1 b2⟩
  | inr x =>
    obtain ⟨υ, b1, b2, b3⟩ := a1 x e
    exact ⟨υ, b1, PG_P h.2.2.2.2.1 g b2 b3 (by rw [psm_to e]; exact (pT_in g.2.2.2.2).2.1), b2⟩
theorem ow_name (h : PSh σ X u tx) (g : PG X u tx σ D p τ) (h4 : D.1 < 4) : OUTg X u σ (fun υ p2 => PG X u tx σ D p2 υ ∧ NM υ u D.1 (ptx tx (pF tx p) (pT tx p))) (fX5_readName τ (X + 3) (zi D.1)) (pna tx D p) := by
  have h2 := PG_sh h g
  obtain ⟨a1, a2⟩ := pl_name h2 g.2.2.1 g.2.2.2.1 g.2.2.2.2 h4
  cases e : pna tx D p with
  | inl x =>
    obtain ⟨υ, b1, b2⟩ := a2 x e
    exact ⟨υ, b1, PBad_fr g.1 b2⟩
  | inr x =>
    obtain ⟨υ, b1, b2, b3, b4, b5, b6⟩ := a1 x e
    exact ⟨υ, b1, ⟨pfr_trans g.1 b2, fun j hj => (b3 j hj).trans (g.2.1 j hj), b4, b5, by rw [pna_to e]; exact (pT_in g.2.2.2.2).2.1⟩, b6⟩
/-- a token on -/
theorem ow_adv (h : PSh σ X u tx) (g : PG X u tx σ D p τ) : ∃ υ, fX5_advance τ (X + 3) = some υ ∧ PG X u tx σ D (pT tx p) υ ∧ pfP X τ υ := by
  have b2 := (pT_in g.2.2.2.2).2.1
  obtain ⟨υ, w1, w2, w3⟩ := pl_adv (p0 := pT tx p) (PG_sh h g) g.2.2.1.2.2 b2
  exact ⟨υ, w1, PG_P h.2.2.2.2.1 g (pfT_P w2) w3 b2, pfT_P w2⟩
theorem PG_u {a j : Nat} {v : Int32} {D2 : pD} (hu : X + 6 ≤ u) (g : PG X u tx σ D p τ) (h1 : u ≤ a) (h2 : a < u + 10) (hD : PD (zuI τ a j v) u D2) : PG X u tx σ D2 p (zuI τ a j v) :=
  ⟨pfr_trans g.1 (pfr_u h1 h2), fun i hi => by rw [show (zuI τ a j v).2.1 (X + 3) = τ.2.1 (X + 3) from zu_off _ _ _ (by omega)]; exact g.2.1 i hi, PT_u hu h1 g.2.2.1, hD, g.2.2.2.2⟩
theorem NM_u {a j s : Nat} {v : Int32} {l : List Int32} (h : NM τ u s l) (h4 : a ≠ u + 4) (h5 : a ≠ u + 5) : NM (zuI τ a j v) u s l := by
  unfold NM
  rw [show (zuI τ a j v).2.1 (u + 4) = τ.2.1 (u + 4) from zu_off _ _ _ (fun q => h4 q.symm), show (zuI τ a j v).2.1 (u + 5) = τ.2.1 (u + 5) from zu_off _ _ _ (fun q => h5 q.symm)]
  exact h
theorem ow_src (h : PSh σ X u tx) (g : PG X u tx σ D p τ) (hz : D.2.2.2.1 D.1 = 0) : OUTg X u σ (fun υ a => PG X u tx σ a.1 a.2 υ) (fX5_readSource τ (X + 3)) (psr tx D p) := by
  have hu := h.2.2.2.2.1
  have h2 := PG_sh h g
  have hn := g.2.2.2.1.1
  unfold fX5_readSource psr
  rw [pg_s h2, Option.bind_some, sg_i h2.2.2.2.1, Option.bind_some, hn.2]
  by_cases h4 : 4 ≤ D.1
  · rw [if_neg (show ¬ zi (D.1 : Int) < zi 4 by rw [zi_lt (by omega) (by omega) (by omega) (by omega)]; omega), if_pos h4]
    obtain ⟨υ, r1, r2⟩ := pl_refuse (c := 4) h2 g.2.2.1.2.1
    refine ⟨υ, ?_, PBad_fr g.1 r2⟩
    rw [pck5 h2, show fX5_refuse τ (X + 3) (zi 4) = some (υ, zi 0) from r1]
    exact zrZ0
  · rw [if_pos ((zi_lt (by omega) (by omega) (by omega) (by omega)).2 (show (D.1 : Int) < 4 by omega)), if_neg h4]
    obtain ⟨s0, e0, g0, -⟩ := ow_adv h g
    rw [pck5 h2, e0, Option.bind_some, pck5 (PG_sh h g0)]
    refine OUT_bind (ow_name h g0 (by omega)) (fun υ => (if_pos rfl).trans zrZ0) (fun s1 p2 _ q => ?_)
    obtain ⟨g1, N1⟩ := q
    dsimp only
    rw [if_neg z10, pck5 (PG_sh h g1)]
    refine OUT_bind (ow_word h g1 (by omega)) (fun υ => (if_pos rfl).trans zrZ0) (fun s2 p3 _ q => ?_)
    obtain ⟨g2, f2⟩ := q
    dsimp only
    rw [if_neg z10, pck5 (PG_sh h g2)]
    refine OUT_bind (ow_num h g2 (by omega)) (fun υ => (if_pos rfl).trans zrZ0) (fun s3 a _ q => ?_)
    obtain ⟨g3, f3, v3⟩ := q
    have h3 := PG_sh h g3
    have g3b := PG_u (D2 := (D.1, qu D.2.1 D.1 a.1, D.2.2.1, D.2.2.2.1, D.2.2.2.2.1, D.2.2.2.2.2)) hu g3 (show u ≤ u + 1 by omega) (by omega) (PD_rec (v := a.1) g3.2.2.2.1 rfl)
    dsimp only
    rw [if_neg z10, pg_s h3, Option.bind_some, sg_r h3.2.2.2.1 (by omega) (by omega), Option.bind_some, pg_i h3, Option.bind_some, v3, zsI_of D.1 h3.2.2.2.1.2.2.1.1 rfl (by omega) (by decide), Option.bind_some]
    rw [pck5 (PG_sh h g3b)]
    refine OUT_bind (ow_word h g3b (by omega)) (fun υ => (if_pos rfl).trans zrZ0) (fun s4 p4 _ q => ?_)
    obtain ⟨g4, f4⟩ := q
    dsimp only
    rw [if_neg z10, pck5 (PG_sh h g4)]
    refine OUT_bind (ow_num h g4 (by omega)) (fun υ => (if_pos rfl).trans zrZ0) (fun s5 b _ q => ?_)
    obtain ⟨g5, f5, v5⟩ := q
    have h5 := PG_sh h g5
    have g5b := PG_u (D2 := (D.1, qu D.2.1 D.1 a.1, qu D.2.2.1 D.1 b.1, D.2.2.2.1, D.2.2.2.2.1, D.2.2.2.2.2)) hu g5 (show u ≤ u + 2 by omega) (by omega) (PD_seed (v := b.1) g5.2.2.2.1 rfl)
    have N5 : NM (zuI s5 (u + 2) D.1 (zi b.1)) u D.1 (ptx tx (pF tx (pT tx p)) (pT tx (pT tx p))) := NM_u (NM_P hu (NM_P hu (NM_u (NM_P hu (NM_P hu N1 f2) f3) (by omega) (by omega)) f4) f5) (by omega) (by omega)
    dsimp only
    rw [if_neg z10, pg_s h5, Option.bind_some, sg_r h5.2.2.2.1 (by omega) (by omega), Option.bind_some, pg_i h5, Option.bind_some, v5, zsI_of D.1 h5.2.2.2.1.2.2.1.2.1 rfl (by omega) (by decide), Option.bind_some]
    generalize hτ6 : zuI s5 (u + 2) D.1 (zi b.1) = t at g5b N5
    have h6 := PG_sh h g5b
    have fin : ∀ (τ2 : zS) (lg q : Nat), PG X u tx σ (D.1, qu D.2.1 D.1 a.1, qu D.2.2.1 D.1 b.1, qu D.2.2.2.1 D.1 lg, D.2.2.2.2.1, D.2.2.2.2.2) q τ2 → NM τ2 u D.1 (ptx tx (pF tx (pT tx p)) (pT tx (pT tx p))) → ∃ υ, jX5_readSource_140 τ2 (X + 3) = some (υ, zi 1) ∧ PG X u tx σ (pput D a.1 b.1 lg (ptx tx (pF tx (pT tx p)) (pT tx (pT tx p)))) q υ := by
      intro τ2 lg q gg NN
      have hh := PG_sh h gg
      refine ⟨zuI τ2 u 0 (zi ((D.1 + 1 : Nat) : Int)), ?_, PG_u hu gg (Nat.le_refl u) (by omega) (PD_more gg.2.2.2.1 (by dsimp only; omega) NN)⟩
      unfold jX5_readSource_140
      rw [pg_s hh, Option.bind_some, sg_i hh.2.2.2.1, Option.bind_some, gg.2.2.2.1.1.2, zi_add, show zpI 7 0 τ2 u (zi (((D.1 : Nat) : Int) + 1)) = some (zuI τ2 u 0 (zi (((D.1 : Nat) : Int) + 1))) from if_pos hh.2.2.2.1.1, Option.bind_some]
      exact zrZ1
    have g0 : PG X u tx σ (D.1, qu D.2.1 D.1 a.1, qu D.2.2.1 D.1 b.1, qu D.2.2.2.1 D.1 0, D.2.2.2.2.1, D.2.2.2.2.2) b.2 t := by
      have : qu D.2.2.2.1 D.1 0 = D.2.2.2.1 := by
        funext s
        by_cases e : s = D.1
        · subst e
          rw [qu_at, hz]
        · rw [qu_ne e]
      rw [this]
      exact g5b
    rw [pl_quoted h6 g5b.2.2.1 g5b.2.2.2.2, pck5 h6, Option.bind_some]
    unfold pla
    cases hW : pW tx b.2 with
    | none =>
      rw [if_neg (show ¬ (none : Option Nat) = some 3 from fun q => by cases q)]
      exact fin t 0 b.2 g0 N5
    | some a18 =>
      have ha := pW_lt hW
      dsimp only
      rw [show zwE a18 3 = some (if a18 = 3 then 1 else 0) from if_pos ⟨ha, by decide⟩, Option.bind_some]
      by_cases e3 : a18 = 3
      · subst e3
        obtain ⟨s7, e7, g7, f7⟩ := ow_adv h g5b
        rw [if_pos rfl, if_pos rfl, if_pos rfl, pck5 h6, e7, Option.bind_some, pck5 (PG_sh h g7)]
        refine OUT_bind (ow_num h g7 (by omega)) (fun υ => (if_pos rfl).trans zrZ0) (fun s8 c _ q => ?_)
        obtain ⟨g8, f8, v8⟩ := q
        have h8 := PG_sh h g8
        have g8b := PG_u (D2 := (D.1, qu D.2.1 D.1 a.1, qu D.2.2.1 D.1 b.1, qu D.2.2.2.1 D.1 c.1, D.2.2.2.2.1, D.2.2.2.2.2)) hu g8 (show u ≤ u + 3 by omega) (by omega) (PD_lag (v := c.1) g8.2.2.2.1 rfl)
        dsimp only
        rw [if_neg z10, pg_s h8, Option.bind_some, sg_r h8.2.2.2.1 (by omega) (by omega), Option.bind_some, pg_i h8, Option.bind_some, v8, zsI_of D.1 h8.2.2.2.1.2.2.1.2.2.1 rfl (by omega) (by decide), Option.bind_some]
        exact fin _ c.1 c.2 g8b (NM_u (NM_P hu (NM_P hu N5 f7) f8) (by omega) (by omega))
      · rw [if_neg e3, if_neg (show ¬ (0 : Int32) = 1 by decide), if_neg (show ¬ some a18 = some 3 from fun q => e3 (Option.some.inj q))]
        exact fin t 0 b.2 g0 N5
theorem zw_set : ∀ w, w < 9 → zwI 0 w = some (zi (if 4 ≤ w then (w : Int) - 4 else -1)) ∧ zwI 1 w = some (zi ([0, 0, 0, 0, 1, 1, 4, 0, 0].getD w 0)) := by decide
theorem ow_set (h : PSh σ X u tx) (g : PG X u tx σ D p τ) (hw : w < 9) (h4 : 4 ≤ w) (hv : ∀ k v, D.2.2.2.2.2 k = some v → v < 1000) : OUTg X u σ (fun υ a => PG X u tx σ a.1 a.2 υ) (fX5_readSetting τ (X + 3) w) (pse tx D w p) := by
  have hu := h.2.2.2.2.1
  have h2 := PG_sh h g
  have hset := g.2.2.2.1.2.2.2 (w - 4) (by omega)
  unfold fX5_readSetting pse
  rw [(zw_set w hw).1, if_pos h4, Option.bind_some, if_neg (show ¬ zi ((w : Int) - 4) < zi 0 by rw [zi_lt (by omega) (by omega) (by omega) (by omega)]; omega), if_neg (show ¬ zi 5 ≤ zi ((w : Int) - 4) by rw [zi_le (by omega) (by omega) (by omega) (by omega)]; omega), pg_s h2, Option.bind_some, sg_r h2.2.2.2.1 (by omega) (by omega), Option.bind_some, zaI_of (w - 4) h2.2.2.2.1.2.2.1.2.2.2.2.2 (by omega) (by omega) (by decide), Option.bind_some, hset]
  cases hS : D.2.2.2.2.2 (w - 4) with
  | some v =>
    have := hv _ _ hS
    rw [if_neg (show ¬ zi (v : Int) = zi (-1) by rw [zi_eq (by omega) (by omega) (by omega) (by omega)]; omega), if_neg (show ¬ some v = none from fun q => by cases q)]
    obtain ⟨υ, r1, r2⟩ := pl_refuse (c := 3) h2 g.2.2.1.2.1
    refine ⟨υ, ?_, PBad_fr g.1 r2⟩
    unfold jX5_readSetting_27
    rw [pck5 h2, show fX5_refuse τ (X + 3) (zi 3) = some (υ, zi 0) from r1]
    exact zrZ0
  | none =>
    rw [if_pos rfl, if_pos rfl]
    obtain ⟨s0, e0, g0, -⟩ := ow_adv h g
    have h0 := PG_sh h g0
    rw [pck5 h2, e0, Option.bind_some, show zwE w 8 = some (if w = 8 then 1 else 0) from if_pos ⟨hw, by decide⟩, Option.bind_some]
    by_cases e8 : w = 8
    · subst e8
      rw [if_pos rfl, if_pos rfl, if_pos rfl, pg_s h0, Option.bind_some, sg_r h0.2.2.2.1 (by omega) (by omega), Option.bind_some, zsI_of 4 h0.2.2.2.1.2.2.1.2.2.2.2.2 (by omega) (by omega) (by decide), Option.bind_some]
      exact ⟨_, zrZ1, PG_u hu g0 (show u ≤ u + 6 by omega) (by omega) (PD_set (k := 4) (v := 1) g0.2.2.2.1)⟩
    · rw [if_neg e8, if_neg (show ¬ (0 : Int32) = 1 by decide), if_neg e8, pck5 h0]
      refine OUT_bind (ow_num h g0 hw) (fun υ => (if_pos rfl).trans zrZ0) (fun s1 a _ q => ?_)
      obtain ⟨g1, f1, v1⟩ := q
      have h1 := PG_sh h g1
      dsimp only
      rw [if_neg z10, pg_s h1, Option.bind_some, sg_r h1.2.2.2.1 (by omega) (by omega), Option.bind_some, pg_i h1, Option.bind_some, v1, zsI_of (w - 4) h1.2.2.2.1.2.2.1.2.2.2.2.2 (by omega) (by omega) (by decide), Option.bind_some]
      exact ⟨_, zrZ1, PG_u hu g1 (show u ≤ u + 6 by omega) (by omega) (PD_set (k := w - 4) (v := a.1) g1.2.2.2.1)⟩
theorem ow_st (h : PSh σ X u tx) (g : PG X u tx σ D p τ) (hz : D.2.2.2.1 D.1 = 0) (hv : ∀ k v, D.2.2.2.2.2 k = some v → v < 1000) : OUTg X u σ (fun υ a => PG X u tx σ a.1 a.2 υ) (fX5_readStatement τ (X + 3)) (pst tx D p) := by
  have h2 := PG_sh h g
  have bad : ∃ υ, jX5_readStatement_44 τ (X + 3) = some (υ, zi 0) ∧ PBad X u σ υ (1, pF tx p) := by
    obtain ⟨υ, r1, r2⟩ := pl_refuse (c := 1) h2 g.2.2.1.2.1
    refine ⟨υ, ?_, PBad_fr g.1 r2⟩
    unfold jX5_readStatement_44
    rw [pck5 h2, show fX5_refuse τ (X + 3) (zi 1) = some (υ, zi 0) from r1]
    exact zrZ0
  unfold fX5_readStatement pst
  rw [pl_quoted h2 g.2.2.1 g.2.2.2.2, pck5 h2, Option.bind_some]
  cases hW : pW tx p with
  | none => exact bad
  | some w =>
    have hw := pW_lt hW
    dsimp only
    rw [show zwE w 0 = some (if w = 0 then 1 else 0) from if_pos ⟨hw, by decide⟩, Option.bind_some]
    by_cases e0 : w = 0
    · rw [if_pos e0, if_pos rfl, if_pos e0, pck5 h2]
      refine OUT_bind (ow_src h g hz) (fun υ => (if_pos rfl).trans zrZ0) (fun s1 a _ g1 => ?_)
      dsimp only
      rw [if_neg z10, pck5 (PG_sh h g1)]
      refine OUT_bind (ow_semi h g1) (fun υ => (if_pos rfl).trans zrZ0) (fun s2 p2 _ q => ?_)
      dsimp only
      rw [if_neg z10]
      exact ⟨s2, zrZ1, q.1⟩
    · rw [if_neg e0, if_neg (show ¬ (0 : Int32) = 1 by decide), if_neg e0, (zw_set w hw).1, Option.bind_some]
      by_cases e4 : 4 ≤ w
      · rw [if_pos e4, if_neg (show ¬ zi ((w : Int) - 4) = zi (-1) by rw [zi_eq (by omega) (by omega) (by omega) (by omega)]; omega), if_pos e4, pck5 h2]
        refine OUT_bind (ow_set h g hw e4 hv) (fun υ => (if_pos rfl).trans zrZ0) (fun s1 a _ g1 => ?_)
        dsimp only
        rw [if_neg z10, pck5 (PG_sh h g1)]
        refine OUT_bind (ow_semi h g1) (fun υ => (if_pos rfl).trans zrZ0) (fun s2 p2 _ q => ?_)
        dsimp only
        rw [if_neg z10]
        exact ⟨s2, zrZ1, q.1⟩
      · rw [if_neg e4, if_pos rfl, if_neg e4]
        exact bad
end PR
