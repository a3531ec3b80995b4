/-! THE CLASS'S WORLD at X: what each of its blocks holds, told by addresses; and that a block's words stay when its cells stay. -/
def zeq (σ τ : zS) (lo hi : Nat) : Prop := ∀ a, lo ≤ a → a < hi → τ.1 a = σ.1 a ∧ τ.2.1 a = σ.2.1 a ∧ τ.2.2.1 a = σ.2.2.1 a ∧ τ.2.2.2 a = σ.2.2.2 a
/-- only cells from lo to hi change; kinds never -/
def zfr (lo hi : Nat) (σ τ : zS) : Prop := τ.1 = σ.1 ∧ ∀ a, (a < lo ∨ hi ≤ a) → τ.2.1 a = σ.2.1 a ∧ τ.2.2.1 a = σ.2.2.1 a ∧ τ.2.2.2 a = σ.2.2.2 a
theorem zfr_eq {lo hi l2 h2 : Nat} {σ τ : zS} (h : zfr lo hi σ τ) (hd : h2 ≤ lo ∨ hi ≤ l2) : zeq σ τ l2 h2 := fun a h3 h4 => by
  obtain ⟨q1, q2, q3⟩ := h.2 a (by omega)
  exact ⟨by rw [h.1], q1, q2, q3⟩
theorem zfr_refl (lo hi : Nat) (σ : zS) : zfr lo hi σ σ := ⟨rfl, fun _ _ => ⟨rfl, rfl, rfl⟩⟩
theorem zfr_trans {lo hi : Nat} {σ τ υ : zS} (h : zfr lo hi σ τ) (g : zfr lo hi τ υ) : zfr lo hi σ υ := ⟨g.1.trans h.1, fun a ha => by
  obtain ⟨a1, a2, a3⟩ := h.2 a ha
  obtain ⟨b1, b2, b3⟩ := g.2 a ha
  exact ⟨b1.trans a1, b2.trans a2, b3.trans a3⟩⟩
theorem zfr_wide {lo hi l2 h2 : Nat} {σ τ : zS} (h : zfr lo hi σ τ) (h1 : l2 ≤ lo) (h3 : hi ≤ h2) : zfr l2 h2 σ τ := ⟨h.1, fun a ha => h.2 a (by omega)⟩
theorem zfr_put {σ : zS} {f b u : Nat} {V : Nat → Nat → Int32} : zfr f (f + 31) σ (fput σ f V b u) := ⟨rfl, fun a ha => ⟨fp_ne (by omega), by funext j; exact fr_oth (by omega), rfl⟩⟩
theorem zfr_I {σ : zS} {a j : Nat} {v : Int32} : zfr a (a + 1) σ (zuI σ a j v) := ⟨rfl, fun c hc => ⟨zu_off _ _ _ (by omega), rfl, rfl⟩⟩
theorem zfr_R {σ : zS} {a j : Nat} {v : Option Nat} : zfr a (a + 1) σ (zuR σ a j v) := ⟨rfl, fun c hc => ⟨rfl, zu_off _ _ _ (by omega), rfl⟩⟩
theorem zfr_J {σ : zS} {a j : Nat} {v : Int64} : zfr a (a + 1) σ (zuJ σ a j v) := ⟨rfl, fun c hc => ⟨rfl, rfl, zu_off _ _ _ (by omega)⟩⟩
theorem zeq_sub {σ τ : zS} {lo hi l2 h2 : Nat} (h : zeq σ τ lo hi) (h1 : lo ≤ l2) (h3 : h2 ≤ hi) : zeq σ τ l2 h2 := fun a a1 a2 => h a (by omega) (by omega)
theorem fsh_eq {σ τ : zS} {g : Nat} (h : fsh σ g) (e : zeq σ τ g (g + 31)) : fsh τ g := by
  obtain ⟨a1, a2, a3, a4, a5, a6, a7⟩ := h
  have e0 := e g (by omega) (by omega)
  have eo : ∀ o, o < 31 → τ.1 (g + o) = σ.1 (g + o) ∧ τ.2.2.1 (g + o) = σ.2.2.1 (g + o) := fun o ho => ⟨(e (g + o) (by omega) (by omega)).1, (e (g + o) (by omega) (by omega)).2.2.1⟩
  refine ⟨by rw [e0.1]; exact a1, ⟨by rw [(eo 11 (by omega)).1]; exact a2.1, by rw [(eo 20 (by omega)).1]; exact a2.2⟩, ⟨by rw [(eo 6 (by omega)).1]; exact a3.1, by rw [(eo 15 (by omega)).1]; exact a3.2.1, by rw [(eo 24 (by omega)).1]; exact a3.2.2⟩, fun o ho hl => by rw [(eo o ho).1]; exact a4 o ho hl, by rw [e0.2.2.1]; exact a5, fun x hx => by rw [(eo x (by omega)).2]; exact a6 x hx, fun o j ho hj => by rw [(eo o (by omega)).2]; exact a7 o j ho hj⟩
theorem fis_eq {σ τ : zS} {g b u : Nat} {V : Nat → Nat → Int32} (h : fis σ g V b u) (e : zeq σ τ g (g + 31)) : fis τ g V b u := by
  obtain ⟨a1, a2, a3, a4, a5⟩ := h
  have e0 := e g (by omega) (by omega)
  exact ⟨fsh_eq a1 e, fun o ho => by rw [(e (g + o) (by omega) (by omega)).2.1]; exact a2 o ho, by rw [e0.2.2.1]; exact a3, by rw [e0.2.2.1]; exact a4, by rw [e0.2.2.1]; exact a5⟩
/-- the setup's block as it always is -/
def sush (σ : zS) (u : Nat) : Prop := (σ.1 u).1 = 12 ∧ (∀ j, 2 ≤ j → j ≤ 10 → σ.2.2.1 u j = some (u + (j - 1))) ∧ (σ.1 (u + 1) = (1, 4) ∧ σ.1 (u + 2) = (1, 4) ∧ σ.1 (u + 3) = (1, 4) ∧ σ.1 (u + 4) = (1, 4) ∧ σ.1 (u + 5) = (2, 32) ∧ σ.1 (u + 6) = (1, 5)) ∧ σ.1 (u + 7) = (1, 800) ∧ σ.1 (u + 8) = (1, 800) ∧ σ.1 (u + 9) = (1, 800)
theorem sush_eq {σ τ : zS} {u : Nat} (h : sush σ u) (e : zeq σ τ u (u + 10)) : sush τ u := by
  obtain ⟨a1, a2, ⟨b1, b2, b3, b4, b5, b6⟩, a4, a5, a6⟩ := h
  have e0 := e u (by omega) (by omega)
  have eo : ∀ o, o < 10 → τ.1 (u + o) = σ.1 (u + o) := fun o ho => (e (u + o) (by omega) (by omega)).1
  exact ⟨by rw [e0.1]; exact a1, fun j h1 h2 => by rw [e0.2.2.1]; exact a2 j h1 h2, ⟨(eo 1 (by omega)).trans b1, (eo 2 (by omega)).trans b2, (eo 3 (by omega)).trans b3, (eo 4 (by omega)).trans b4, (eo 5 (by omega)).trans b5, (eo 6 (by omega)).trans b6⟩, (eo 7 (by omega)).trans a4, (eo 8 (by omega)).trans a5, (eo 9 (by omega)).trans a6⟩
theorem SU_eq {σ τ : zS} {u : Nat} {P : qP} (h : SU σ u P) (e : zeq σ τ u (u + 10)) : SU τ u P := by
  obtain ⟨a1, a2, a3, a4, a5, a6, a7, a8⟩ := h
  have e0 := e u (by omega) (by omega)
  have eo : ∀ o, o < 10 → τ.1 (u + o) = σ.1 (u + o) ∧ τ.2.1 (u + o) = σ.2.1 (u + o) := fun o ho => ⟨(e (u + o) (by omega) (by omega)).1, (e (u + o) (by omega) (by omega)).2.1⟩
  refine ⟨by rw [e0.1]; exact a1, by rw [e0.2.1]; exact a2, by rw [e0.2.1]; exact a3, fun j h1 h2 => by rw [e0.2.2.1]; exact a4 j h1 h2, ?_, ?_, ?_, ?_⟩
  · rw [(eo 1 (by omega)).1, (eo 1 (by omega)).2]; exact a5
  · rw [(eo 7 (by omega)).1, (eo 7 (by omega)).2]; exact a6
  · rw [(eo 8 (by omega)).1, (eo 8 (by omega)).2]; exact a7
  · rw [(eo 9 (by omega)).1, (eo 9 (by omega)).2]; exact a8
/-- seeds and names of the setup -/
def SN (σ : zS) (u : Nat) (P : qP) (nm : Nat → List Int32) : Prop := ∀ s, s < P.1 → σ.2.1 (u + 2) s = zi (P.2.2.2 s) ∧ σ.2.1 (u + 4) s = zi (nm s).length ∧ (nm s).length ≤ 8 ∧ ∀ i, i < (nm s).length → σ.2.1 (u + 5) (8 * s + i) = (nm s).getD i 0
theorem SN_eq {σ τ : zS} {u : Nat} {P : qP} {nm : Nat → List Int32} (h : SN σ u P nm) (e : zeq σ τ u (u + 10)) : SN τ u P nm := fun s hs => by
  rw [(e (u + 2) (by omega) (by omega)).2.1, (e (u + 4) (by omega) (by omega)).2.1, (e (u + 5) (by omega) (by omega)).2.1]
  exact h s hs
/-- the shape of the class's other objects -/
def csh (σ : zS) (X : Nat) : Prop :=
  (σ.1 X).1 = 13 ∧ (σ.2.2.1 X 0 = some (X + 1) ∧ σ.2.2.1 X 1 = some (X + 3) ∧ σ.2.2.1 X 2 = some (X + 4) ∧ σ.2.2.1 X 3 = some (X + 119) ∧ σ.2.2.1 X 4 = some (X + 26) ∧ σ.2.2.1 X 5 = some (X + 57) ∧ σ.2.2.1 X 6 = some (X + 88)) ∧
  ((σ.1 (X + 119)).1 = 11 ∧ σ.2.2.1 (X + 119) 2 = some (X + 120) ∧ σ.1 (X + 120) = (4, 6) ∧ ∀ i, i < 6 → σ.2.2.1 (X + 120) i = some (X + 121 + 31 * i)) ∧
  ((σ.1 (X + 1)).1 = 7 ∧ σ.2.2.1 (X + 1) 0 = some (X + 2) ∧ σ.1 (X + 2) = (2, 300)) ∧ ((σ.1 (X + 4)).1 = 9 ∧ σ.2.2.1 (X + 4) 0 = some (X + 5) ∧ σ.1 (X + 5) = (2, 8000)) ∧ ((σ.1 (X + 3)).1 = 10 ∧ σ.2.2.1 (X + 3) 2 = some (X + 1))
theorem csh_eq {σ τ : zS} {X : Nat} (h : csh σ X) (k : τ.1 = σ.1) (e0 : ∀ j, j < 7 → τ.2.2.1 X j = σ.2.2.1 X j) (e1 : ∀ j, (a : Nat) → (a = X + 1 ∨ a = X + 4 ∨ a = X + 119 ∨ a = X + 120) → τ.2.2.1 a j = σ.2.2.1 a j) (e3 : τ.2.2.1 (X + 3) 2 = σ.2.2.1 (X + 3) 2) : csh τ X := by
  unfold csh
  rw [k, e0 0 (by omega), e0 1 (by omega), e0 2 (by omega), e0 3 (by omega), e0 4 (by omega), e0 5 (by omega), e0 6 (by omega), e1 2 (X + 119) (by omega), e1 0 (X + 1) (by omega), e1 0 (X + 4) (by omega), e3]
  obtain ⟨a1, a2, ⟨b1, b2, b3, b4⟩, a4⟩ := h
  exact ⟨a1, a2, ⟨b1, b2, b3, fun i hi => by rw [e1 i (X + 120) (by omega)]; exact b4 i hi⟩, a4⟩
/-- places of the nine flows: now, trial, saved, six of the past -/
def fpl (X i : Nat) : Nat := if i < 3 then X + 26 + 31 * i else X + 28 + 31 * i
theorem fpl_in {X i : Nat} (h : i < 9) : X + 26 ≤ fpl X i ∧ fpl X i + 31 ≤ X + 307 ∧ (fpl X i + 31 ≤ X + 119 ∨ X + 121 ≤ fpl X i) := by
  unfold fpl
  split <;> omega
theorem fpl_apart {X i j : Nat} (h : i ≠ j) : fapart (fpl X i) (fpl X j) := by
  unfold fapart fpl
  split <;> split <;> omega
/-- the nine flows and what they hold -/
def FW (σ : zS) (X u : Nat) (G : Nat → Option qM) : Prop := ∀ i, i < 9 → ∃ V b v, fis σ (fpl X i) V b v ∧ fx b ∧ ∀ M, G i = some M → v = u ∧ RC V b M
theorem FW_eq {σ τ : zS} {X u : Nat} {G : Nat → Option qM} (h : FW σ X u G) (e : ∀ i, i < 9 → zeq σ τ (fpl X i) (fpl X i + 31)) : FW τ X u G := fun i hi => by
  obtain ⟨V, b, v, h1, h2, h3⟩ := h i hi
  exact ⟨V, b, v, fis_eq h1 (e i hi), h2, h3⟩
theorem FW_put {σ : zS} {X u i b v : Nat} {G : Nat → Option qM} {V : Nat → Nat → Int32} {o : Option qM} (h : FW σ X u G) (hi : i < 9) (hb : fx b) (hM : ∀ M, o = some M → v = u ∧ RC V b M) : FW (fput σ (fpl X i) V b v) X u (qu G i o) := fun j hj => by
  by_cases e : j = i
  · subst e
    obtain ⟨V0, b0, v0, h1, h2, h3⟩ := h j hj
    exact ⟨V, b, v, fis_put h1.1, hb, fun M hM2 => hM M (by rw [qu_at] at hM2; exact hM2)⟩
  · obtain ⟨V0, b0, v0, h1, h2, h3⟩ := h j hj
    exact ⟨V0, b0, v0, fis_put2 h1 (fpl_apart (fun q => e q.symm)), h2, fun M hM2 => h3 M (by rw [qu_ne e] at hM2; exact hM2)⟩
/-- what is not a flow: w tells which of the two setups is in use -/
def CR (σ : zS) (X w : Nat) (P : qP) (nm : Nat → List Int32) (sv : Bool) (sz q : Nat) (tx : List Int32) (er ea : Int) (ou : List Int32) : Prop :=
  csh σ X ∧ (w = 6 ∨ w = 16) ∧ (σ.2.2.1 X 8 = some (X + w) ∧ σ.2.2.1 X 9 = some (X + (22 - w))) ∧ (SU σ (X + w) P ∧ SN σ (X + w) P nm ∧ qPok P) ∧ (sush σ (X + 6) ∧ sush σ (X + 16)) ∧ σ.2.1 X 7 = zb sv ∧
  (σ.2.1 (X + 119) 0 = zi sz ∧ σ.2.1 (X + 119) 1 = zi q ∧ sz ≤ 6 ∧ q < 6) ∧ (σ.2.1 (X + 1) 1 = zi tx.length ∧ tx.length ≤ 300 ∧ ∀ i, i < tx.length → σ.2.1 (X + 2) i = tx.getD i 0) ∧ (σ.2.1 (X + 3) 0 = zi er ∧ σ.2.1 (X + 3) 1 = zi ea) ∧
  (σ.2.1 (X + 4) 1 = zi ou.length ∧ ou.length ≤ 8000 ∧ ∀ i, i < ou.length → σ.2.1 (X + 5) i = ou.getD i 0)
theorem CR_eq {σ τ : zS} {X w : Nat} {P : qP} {nm : Nat → List Int32} {sv : Bool} {sz q : Nat} {tx : List Int32} {er ea : Int} {ou : List Int32} (h : CR σ X w P nm sv sz q tx er ea ou) (k : τ.1 = σ.1) (e : zeq σ τ X (X + 26)) (e2 : zeq σ τ (X + 119) (X + 121)) : CR τ X w P nm sv sz q tx er ea ou := by
  obtain ⟨a1, a2, a3, ⟨b1, b2, b3⟩, ⟨c1, c2⟩, a6, a7, a8, a9, a10⟩ := h
  have eo : ∀ o, o < 26 → τ.2.1 (X + o) = σ.2.1 (X + o) ∧ τ.2.2.1 (X + o) = σ.2.2.1 (X + o) := fun o ho => ⟨(e (X + o) (by omega) (by omega)).2.1, (e (X + o) (by omega) (by omega)).2.2.1⟩
  have e0 := e X (by omega) (by omega)
  refine ⟨csh_eq a1 k (fun j _ => by rw [e0.2.2.1]) (fun j a ha => ?_) (by rw [(eo 3 (by omega)).2]), a2, by rw [e0.2.2.1]; exact a3, ⟨SU_eq b1 (zeq_sub e (by omega) (by omega)), SN_eq b2 (zeq_sub e (by omega) (by omega)), b3⟩, ⟨sush_eq c1 (zeq_sub e (by omega) (by omega)), sush_eq c2 (zeq_sub e (by omega) (by omega))⟩, by rw [e0.2.1]; exact a6, by rw [(e2 (X + 119) (by omega) (by omega)).2.1]; exact a7, ?_, by rw [(eo 3 (by omega)).1]; exact a9, ?_⟩
  · rcases ha with rfl | rfl | rfl | rfl
    · rw [(eo 1 (by omega)).2]
    · rw [(eo 4 (by omega)).2]
    · rw [(e2 (X + 119) (by omega) (by omega)).2.2.1]
    · rw [(e2 (X + 120) (by omega) (by omega)).2.2.1]
  · rw [(eo 1 (by omega)).1, (eo 2 (by omega)).1]; exact a8
  · rw [(eo 4 (by omega)).1, (eo 5 (by omega)).1]; exact a10
theorem CR_put {σ : zS} {X w : Nat} {P : qP} {nm : Nat → List Int32} {sv : Bool} {sz q : Nat} {tx : List Int32} {er ea : Int} {ou : List Int32} {i b v : Nat} {V : Nat → Nat → Int32} (h : CR σ X w P nm sv sz q tx er ea ou) (hi : i < 9) : CR (fput σ (fpl X i) V b v) X w P nm sv sz q tx er ea ou := by
  have := fpl_in (X := X) hi
  exact CR_eq h rfl (zfr_eq zfr_put (by omega)) (zfr_eq zfr_put (by omega))
theorem CR_KS {σ : zS} {X w : Nat} {P : qP} {nm : Nat → List Int32} {sv : Bool} {sz q : Nat} {tx : List Int32} {er ea : Int} {ou : List Int32} {i : Nat} {G : Nat → Option qM} (h : CR σ X w P nm sv sz q tx er ea ou) (hF : FW σ X (X + w) G) (hi : i < 9) : KS σ (fpl X i) (X + w) P := by
  obtain ⟨V, b, v, h1, -⟩ := hF i hi
  have := fpl_in (X := X) hi
  have hw := h.2.1
  exact ⟨h1.1, h.2.2.2.1.1, by omega, h.2.2.2.1.2.2⟩
