/-! Methods of the class that change nothing. -/
theorem zloop_inv {S R : Type} {step : S → Option (S ⊕ R)} (P : S → Prop) (K : R → Prop) (hs : ∀ (s : S) (y : S ⊕ R), step s = some y → P s → (∀ s2, y = .inl s2 → P s2) ∧ (∀ x, y = .inr x → K x)) : ∀ (n : Nat) (s : S) (x : R), zloop step n s = some x → P s → K x
  | 0, s, x, h, _ => by cases h
  | n + 1, s, x, h, hP => by
    obtain ⟨y, hy, h⟩ := zbind h
    obtain ⟨h1, h2⟩ := hs s y hy hP
    cases y with
    | inl s2 => exact zloop_inv P K hs n s2 x h (h1 s2 rfl)
    | inr x2 => exact Option.some.inj h ▸ h2 x2 rfl
theorem saX9_needSource {σ τ : zS} {x0 : Nat} {x1 : Int32} (h : fX9_needSource σ x0 x1 = some τ) : τ = σ := by
  unfold fX9_needSource at h
  split at h
  · cases h
  · obtain ⟨v1, _, h⟩ := zbind h
    obtain ⟨v2, _, h⟩ := zbind h
    split at h
    · exact (Option.some.inj h).symm
    · cases h
theorem saX9_needInstance {σ τ : zS} {x0 : Nat} {x1 : Int32} (h : fX9_needInstance σ x0 x1 = some τ) : τ = σ := by
  unfold fX9_needInstance at h
  split at h
  · cases h
  · obtain ⟨v1, _, h⟩ := zbind h
    obtain ⟨v2, _, h⟩ := zbind h
    split at h
    · exact (Option.some.inj h).symm
    · cases h
theorem saX9_needSink {σ τ : zS} {x0 : Nat} {x1 : Int32} (h : fX9_needSink σ x0 x1 = some τ) : τ = σ := by
  unfold fX9_needSink at h
  split at h
  · cases h
  · obtain ⟨v1, _, h⟩ := zbind h
    obtain ⟨v2, _, h⟩ := zbind h
    split at h
    · exact (Option.some.inj h).symm
    · cases h
theorem saX9_needKey {σ τ : zS} {x0 : Int32} (h : fX9_needKey σ x0 = some τ) : τ = σ := by
  unfold fX9_needKey at h
  split at h
  · cases h
  · split at h
    · exact (Option.some.inj h).symm
    · cases h
theorem saX9_needTicks {σ τ : zS} {x0 : Int32} (h : fX9_needTicks σ x0 = some τ) : τ = σ := by
  unfold fX9_needTicks at h
  split at h
  · cases h
  · split at h
    · exact (Option.some.inj h).symm
    · cases h
theorem saX0_exists {σ : zS} {x0 : Nat} {X : zS × Int32} (h : fX0_exists σ x0 = some X) : X.1 = σ := by
  unfold fX0_exists at h
  obtain ⟨v1, _, h⟩ := zbind h
  split at h <;> rw [← (zrZ_ok h).1]
theorem saX3_isList {σ : zS} {x1 : Int32} {X : zS × Int32} (h : fX3_isList σ x1 = some X) : X.1 = σ := by
  unfold fX3_isList at h
  split at h
  · rw [← (zrZ_ok h).1]
  · split at h <;> rw [← (zrZ_ok h).1]
theorem saX3_isRecord {σ : zS} {x1 : Int32} {X : zS × Int32} (h : fX3_isRecord σ x1 = some X) : X.1 = σ := by
  unfold fX3_isRecord at h
  split at h
  · rw [← (zrZ_ok h).1]
  · split at h <;> rw [← (zrZ_ok h).1]
theorem saX3_sizeOf {σ : zS} {x0 : Nat} {x1 : Int32} {X : zS × Int32} (h : fX3_sizeOf σ x0 x1 = some X) : X.1 = σ := by
  unfold fX3_sizeOf at h
  obtain ⟨c1, h1, h⟩ := zbind h
  have e1 := saX3_isList h1
  split at h
  · cases h
    exact e1
  · obtain ⟨v2, _, h⟩ := zbind h
    obtain ⟨v3, _, h⟩ := zbind h
    cases h
    exact e1
theorem saX3_firstOf {σ : zS} {x0 : Nat} {x1 : Int32} {X : zS × Int32} (h : fX3_firstOf σ x0 x1 = some X) : X.1 = σ := by
  unfold fX3_firstOf at h
  obtain ⟨c1, h1, h⟩ := zbind h
  have e1 := saX3_isList h1
  split at h
  · cases h
    exact e1
  · obtain ⟨v2, _, h⟩ := zbind h
    obtain ⟨v3, _, h⟩ := zbind h
    cases h
    exact e1
theorem saX3_behind {σ : zS} {x0 : Nat} {x1 : Int32} {X : zS × Int32} (h : fX3_behind σ x0 x1 = some X) : X.1 = σ := by
  unfold fX3_behind at h
  obtain ⟨c1, h1, h⟩ := zbind h
  have e1 := saX3_isRecord h1
  split at h
  · cases h
    exact e1
  · obtain ⟨v2, _, h⟩ := zbind h
    obtain ⟨v3, _, h⟩ := zbind h
    cases h
    exact e1
theorem saX3_at {σ : zS} {x0 : Nat} {x1 x2 : Int32} {X : zS × Int32} (h : fX3_at σ x0 x1 x2 = some X) : X.1 = σ := by
  unfold fX3_at at h
  split at h
  · cases h; rfl
  · obtain ⟨c1, h1, h⟩ := zbind h
    have e1 := saX3_sizeOf (zck_ok h1).2
    split at h
    · obtain ⟨c2, h2, h⟩ := zbind h
      have e2 := saX3_firstOf (zck_ok h2).2
      obtain ⟨o, h3, h⟩ := zbind h
      cases h
      refine zloop_inv (fun z => z.1 = σ) (fun z => z.1 = σ) ?_ _ _ _ h3 (e2.trans e1)
      intro z y hy hz
      unfold sX3_at_24 sX3_at_24b at hy
      split at hy
      · cases hy
        exact ⟨fun _ e => (by cases e), fun x e => by cases e; exact hz⟩
      · obtain ⟨c3, h4, hy⟩ := zbind hy
        cases hy
        refine ⟨fun s2 e => ?_, fun _ e => (by cases e)⟩
        cases e
        exact (saX3_behind (zck_ok h4).2).trans hz
    · cases h
      exact e1
