/-! What each call keeps: the two sides lie apart; the flows stay as they must be. -/
section FA
variable {σ τ : zS} {X m : Nat} {P : qP} {M N : qM} {H : List qM} {S : Option qM} {nm : Nat → List Int32} {tx ou : List Int32} {er ea z y : Int} {D : pD}
theorem CI_far (h : CI σ X P nm M H S tx er ea ou) (e : zfr m (m + 15) σ τ) (hd : X + 307 ≤ m) : CI τ X P nm M H S tx er ea ou := by
  obtain ⟨w, q, G, hR, hF, h0, hS, hH⟩ := h
  exact ⟨w, q, G, CR_eq hR e.1 (zfr_eq e (by omega)) (zfr_eq e (by omega)), FW_eq hF (fun i hi => zfr_eq e (by have := fpl_in (X := X) hi; omega)), h0, hS, hH⟩
theorem RI_far (h : RI σ m P nm M H S tx er ea ou) (e : zfr X (X + 307) σ τ) (hd : X + 307 ≤ m) : RI τ m P nm M H S tx er ea ou := by
  obtain ⟨e1, e2⟩ := e
  obtain ⟨⟨a1, a2, a3, a4⟩, b, c, d, f, g, i⟩ := h
  have q : ∀ o, τ.2.1 (m + o) = σ.2.1 (m + o) := fun o => (e2 (m + o) (by omega)).1
  have q0 : τ.2.1 m = σ.2.1 m := q 0
  have r0 : τ.2.2.1 m = σ.2.2.1 m := (e2 m (by omega)).2.1
  refine ⟨⟨?_, ?_, by rw [q]; exact a3, a4⟩, ?_, ?_, ?_, ?_, ?_, ?_⟩
  · unfold rsh
    rw [e1, r0]
    exact a1
  · unfold rset
    rw [q0, q, q]
    exact a2
  · unfold RNm
    rw [(e2 (m + 3) (by omega)).2.2]
    exact b
  · unfold RHi
    rw [q0, q]
    exact c
  · unfold RSv
    rw [q0, q]
    exact d
  · unfold RTx
    rw [q0, q]
    exact f
  · rw [q0]
    exact g
  · unfold ROu
    rw [q0, q]
    exact i
theorem QI_up (h : QI z P M H S) (hz : z ≤ y) : QI y P M H S := ⟨⟨h.1.1, KB_le h.1.2 hz⟩, fun N hN => ⟨(h.2.1 N hN).1, KB_le (h.2.1 N hN).2 hz⟩, fun N hN => ⟨(h.2.2 N hN).1, KB_le (h.2.2 N hN).2 hz⟩⟩
theorem QI_new (h : QI z P M H S) (hz : z ≤ y) (hI : qI P N) (hB : KB y N) : QI y P N ((M :: H).take 6) S := by
  have h2 := QI_up h hz
  refine ⟨⟨hI, hB⟩, fun K hK => ?_, h2.2.2⟩
  rcases List.mem_cons.1 (List.mem_of_mem_take hK) with rfl | hK
  · exact h2.1
  · exact h2.2.1 K hK
theorem QI_undo (h : QI z P M (N :: H) S) : QI z P N H S := ⟨h.2.1 N List.mem_cons_self, fun K hK => h.2.1 K (List.mem_cons_of_mem N hK), h.2.2⟩
theorem QI_save (h : QI z P M H S) : QI z P M H (some M) := ⟨h.1, h.2.1, fun K hK => by cases hK; exact h.1⟩
theorem QI_rest (h : QI z P M H (some N)) : QI z P N [] (some N) := ⟨h.2.2 N rfl, fun K hK => (by cases hK), h.2.2⟩
theorem QI_start (h : pDok D) (hP : qPok (pP D)) (hz : 0 ≤ z) : QI z (pP D) (pM D) [] none := ⟨⟨pM_I h hP, ⟨Int.le_refl _, hz⟩, ⟨Int.le_refl _, hz⟩, hz⟩, fun K hK => (by cases hK), fun K hK => (by cases hK)⟩
theorem QI_run {t : Nat} (h : QI z P M H S) (ht : t ≤ 500) : QI (z + 501) P (qit P t M) ((M :: H).take 6) S := by
  obtain ⟨a, b⟩ := qI_it h.1.1 h.1.2 t
  exact QI_new h (by omega) a (KB_le b (by omega))
theorem QI_begin {o : Int} (h : QI z P M H S) (ho : o = 0 ∨ o = 1) (h67 : M.1 67 ≠ 1) : QI (z + 501) P (qbegin o M) ((M :: H).take 6) S :=
  QI_new h (by omega) (qI_begin h.1.1 (by
    rcases h.1.1.1.2.1.2.2.2.2.2.2.2.1 with q | q
    · exact q
    · exact absurd q h67) ho ⟨h.1.2.1.1, h.1.2.2.1.1⟩) (KB_le (KB_begin h.1.2) (by omega))
theorem QI_fail (h : QI z P M H S) : QI (z + 501) P (qfail P M) ((M :: H).take 6) S := QI_new h (by omega) (qI_fail h.1.1) (KB_le (KB_fail (P := P) h.1.2) (by omega))
theorem QI_resc {n : Nat} (h : QI z P M H S) (hn : 1 ≤ n ∧ n ≤ 4) : QI (z + 501) P (qrescale P n M) ((M :: H).take 6) S := QI_new h (by omega) (qI_rescale h.1.1 hn) (KB_le (KB_res (P := P) h.1.2) (by omega))
theorem KB_S {k : Nat} {v : Int} (h : KB z M) (h0 : k ≠ 0) (h5 : k ≠ 5) (h1 : k ≠ 119) : KB z (qS M k v) := by
  unfold KB qS
  dsimp only
  rw [qu_ne (fun q => h0 q.symm), qu_ne (fun q => h5 q.symm), qu_ne (fun q => h1 q.symm)]
  exact h
theorem TB_nil : TB [] := fun i hi => absurd (show i < 0 from hi) (by omega)
theorem TB_of {t : List Int32} (h : ∀ c, c ∈ t → -128 ≤ c.toInt ∧ c.toInt ≤ 127) : TB t := fun i hi => by
  unfold pc
  rw [List.getD_eq_getElem?_getD, List.getElem?_eq_getElem hi]
  exact h _ (List.getElem_mem hi)
theorem TB_mem {t : List Int32} (h : TB t) : ∀ c, c ∈ t → -128 ≤ c.toInt ∧ c.toInt ≤ 127 := fun c hc => by
  obtain ⟨i, hi, e⟩ := List.getElem_of_mem hc
  have := h i hi
  unfold pc at this
  rwa [List.getD_eq_getElem?_getD, List.getElem?_eq_getElem hi, e] at this
theorem TB_four {w : Int32} : ∀ c, c ∈ fourb w → -128 ≤ c.toInt ∧ c.toInt ≤ 127 := fun c hc => by
  unfold fourb at hc
  simp only [List.mem_cons, List.not_mem_nil, or_false] at hc
  rcases hc with rfl | rfl | rfl | rfl <;> exact b8_lo _
theorem TB_feed {t : List Int32} {a b c d e : Int32} (h : TB t) : TB (aFeed t a b c d e) := by
  unfold aFeed
  split
  · refine TB_of (fun x hx => ?_)
    simp only [List.mem_append] at hx
    rcases hx with ((((hx | hx) | hx) | hx) | hx) | hx
    · exact TB_mem h x hx
    · exact TB_four x hx
    · exact TB_four x hx
    · exact TB_four x hx
    · exact TB_four x hx
    · exact TB_four x hx
  · exact h
theorem TB_trunc {t : List Int32} {n : Int} (h : TB t) : TB (aTruncT t n) := by
  unfold aTruncT
  split
  · exact TB_of (fun x hx => TB_mem h x (List.mem_of_mem_take hx))
  · exact h
theorem QI_room {r : Int} (h : QI z P M H S) (hr : 1 ≤ r ∧ r ≤ 9) : QI (z + 501) P (qS M 2 r) ((M :: H).take 6) S := QI_new h (by omega) (qI_num h.1.1 (by omega)) (KB_le (KB_S h.1.2 (by omega) (by omega) (by omega)) (by omega))
theorem QI_lag {a : Nat} {r : Int} (h : QI z P M H S) (ha : a < 4) (hr : 0 ≤ r ∧ r ≤ 9) : QI (z + 501) P (qS M (9 + a) r) ((M :: H).take 6) S := QI_new h (by omega) (qI_num h.1.1 (by omega)) (KB_le (KB_S h.1.2 (by omega) (by omega) (by omega)) (by omega))
theorem QI_every {r : Int} {d : Bool} (h : QI z P M H S) (hr : 0 ≤ r ∧ r ≤ 99) : QI (z + 501) P (qS (qS M 3 r) 4 (if d then 1 else 0)) ((M :: H).take 6) S := QI_new h (by omega) (qI_num (qI_num h.1.1 (by omega)) (by cases d <;> simp)) (KB_le (KB_S (KB_S h.1.2 (by omega) (by omega) (by omega)) (by omega) (by omega) (by omega)) (by omega))
end FA
