/-! A state's words stay when its own cells stay, also where others are made. -/
section EQ9
variable {σ τ : zS} {X m : Nat} {P : qP} {M : qM} {H : List qM} {S : Option qM} {nm : Nat → List Int32} {tx ou : List Int32} {er ea z y : Int}
theorem csh_zeq (h : csh σ X) (z : zeq σ τ X (X + 307)) : csh τ X := by
  have e : ∀ o, o < 307 → τ.1 (X + o) = σ.1 (X + o) ∧ τ.2.2.1 (X + o) = σ.2.2.1 (X + o) := fun o ho => ⟨(z (X + o) (by omega) (by omega)).1, (z (X + o) (by omega) (by omega)).2.2.1⟩
  have e0 : τ.1 X = σ.1 X ∧ τ.2.2.1 X = σ.2.2.1 X := e 0 (by omega)
  unfold csh
  rw [e0.1, e0.2, (e 119 (by omega)).1, (e 119 (by omega)).2, (e 120 (by omega)).1, (e 120 (by omega)).2, (e 1 (by omega)).1, (e 1 (by omega)).2, (e 2 (by omega)).1, (e 4 (by omega)).1, (e 4 (by omega)).2, (e 5 (by omega)).1, (e 3 (by omega)).1, (e 3 (by omega)).2]
  exact h
theorem CI_eq (h : CI σ X P nm M H S tx er ea ou) (z : zeq σ τ X (X + 307)) : CI τ X P nm M H S tx er ea ou := by
  obtain ⟨w, q, G, ⟨a1, a2, a3, ⟨b1, b2, b3⟩, ⟨c1, c2⟩, a6, a7, a8, a9, a10⟩, hF, h0, hS, hH⟩ := h
  have e : ∀ o, o < 307 → τ.2.1 (X + o) = σ.2.1 (X + o) ∧ τ.2.2.1 (X + o) = σ.2.2.1 (X + o) := fun o ho => ⟨(z (X + o) (by omega) (by omega)).2.1, (z (X + o) (by omega) (by omega)).2.2.1⟩
  have e0 : τ.2.1 X = σ.2.1 X ∧ τ.2.2.1 X = σ.2.2.1 X := e 0 (by omega)
  refine ⟨w, q, G, ⟨csh_zeq a1 z, a2, by rw [e0.2]; exact a3, ⟨SU_eq b1 (zeq_sub z (by omega) (by omega)), SN_eq b2 (zeq_sub z (by omega) (by omega)), b3⟩, ⟨sush_eq c1 (zeq_sub z (by omega) (by omega)), sush_eq c2 (zeq_sub z (by omega) (by omega))⟩, by rw [e0.1]; exact a6, by rw [(e 119 (by omega)).1]; exact a7, by rw [(e 1 (by omega)).1, (e 2 (by omega)).1]; exact a8, by rw [(e 3 (by omega)).1]; exact a9, by rw [(e 4 (by omega)).1, (e 5 (by omega)).1]; exact a10⟩, FW_eq hF (fun i hi => zeq_sub z (by have := fpl_in (X := X) hi; omega) (by have := fpl_in (X := X) hi; omega)), h0, hS, hH⟩
theorem RI_eq (h : RI σ m P nm M H S tx er ea ou) (z : zeq σ τ m (m + 15)) : RI τ m P nm M H S tx er ea ou := by
  obtain ⟨⟨a1, a2, a3, a4⟩, b, c, d, f, g, i⟩ := h
  have q : ∀ o, o < 15 → τ.1 (m + o) = σ.1 (m + o) ∧ τ.2.1 (m + o) = σ.2.1 (m + o) ∧ τ.2.2.1 (m + o) = σ.2.2.1 (m + o) ∧ τ.2.2.2 (m + o) = σ.2.2.2 (m + o) := fun o ho => z (m + o) (by omega) (by omega)
  have q0 : τ.1 m = σ.1 m ∧ τ.2.1 m = σ.2.1 m ∧ τ.2.2.1 m = σ.2.2.1 m ∧ τ.2.2.2 m = σ.2.2.2 m := q 0 (by omega)
  refine ⟨⟨?_, ?_, by rw [(q 4 (by omega)).2.1]; exact a3, a4⟩, ?_, ?_, ?_, ?_, ?_, ?_⟩
  · unfold rsh
    rw [q0.1, q0.2.2.1, (q 1 (by omega)).1, (q 2 (by omega)).1, (q 3 (by omega)).1, (q 4 (by omega)).1, (q 5 (by omega)).1, (q 6 (by omega)).1, (q 7 (by omega)).1, (q 8 (by omega)).1, (q 9 (by omega)).1, (q 10 (by omega)).1, (q 11 (by omega)).1, (q 12 (by omega)).1, (q 13 (by omega)).1, (q 14 (by omega)).1]
    exact a1
  · unfold rset
    rw [q0.2.1, (q 1 (by omega)).2.1, (q 2 (by omega)).2.1]
    exact a2
  · unfold RNm
    rw [(q 3 (by omega)).2.2.2]
    exact b
  · unfold RHi
    rw [q0.2.1, (q 9 (by omega)).2.1]
    exact c
  · unfold RSv
    rw [q0.2.1, (q 8 (by omega)).2.1]
    exact d
  · unfold RTx
    rw [q0.2.1, (q 10 (by omega)).2.1]
    exact f
  · rw [q0.2.1]
    exact g
  · unfold ROu
    rw [q0.2.1, (q 14 (by omega)).2.1]
    exact i
theorem J_up (h : J X z σ) (hz : z ≤ y) : J X y σ := by
  obtain ⟨P, nm, M, H, S, tx, er, ea, ou, h1, h2, h3, h4, h5⟩ := h
  exact ⟨P, nm, M, H, S, tx, er, ea, ou, h1, h2, QI_up h3 hz, h4, h5⟩
theorem and63 (v : Int32) : ∃ n : Nat, n < 64 ∧ v &&& zi 63 = zi (n : Int) := by
  refine ⟨(v.toBitVec &&& 63#32).toNat, ?_, ?_⟩
  · rw [BitVec.toNat_and]
    exact Nat.lt_of_le_of_lt Nat.and_le_right (by decide)
  · apply Int32.toBitVec_inj.mp
    rw [Int32.toBitVec_and]
    show v.toBitVec &&& 63#32 = BitVec.ofInt 32 ((v.toBitVec &&& 63#32).toNat : Int)
    rw [BitVec.ofInt_natCast, BitVec.ofNat_toNat, BitVec.setWidth_eq]
end EQ9
