/-! THE CLASS AS THE LAW SEES IT: state, queries, changes. -/
def LC (z : Int) (σ : zS) (X : Nat) (P : qP) (M : qM) (H : List qM) (S : Option qM) : Prop := ∃ nm tx er ea ou, CI σ X P nm M H S tx er ea ou ∧ QI z P M H S ∧ qJ M ∧ (∀ N, N ∈ H → qJ N) ∧ ∀ N, S = some N → qJ N
section LQ
variable {σ τ : zS} {X : Nat} {P : qP} {M N : qM} {H : List qM} {S : Option qM} {z y : Int}
theorem LC_k (h : LC z σ X P M H S) : (σ.1 X).1 = 13 := by
  obtain ⟨nm, tx, er, ea, ou, hC, -⟩ := h
  obtain ⟨w, q, G, hR, -⟩ := hC
  exact hR.1.1
theorem LC_I (h : LC z σ X P M H S) : qI P M ∧ KB z M ∧ qJ M := by
  obtain ⟨nm, tx, er, ea, ou, hC, hQ, hJ, -⟩ := h
  exact ⟨hQ.1.1, hQ.1.2, hJ⟩
theorem LC_up (h : LC z σ X P M H S) (hz : z ≤ y) : LC y σ X P M H S := by
  obtain ⟨nm, tx, er, ea, ou, hC, hQ, hJ⟩ := h
  exact ⟨nm, tx, er, ea, ou, hC, QI_up hQ hz, hJ⟩
theorem LC_eq (h : LC z σ X P M H S) (e : zeq σ τ X (X + 307)) : LC z τ X P M H S := by
  obtain ⟨nm, tx, er, ea, ou, hC, hQ, hJ⟩ := h
  exact ⟨nm, tx, er, ea, ou, CI_eq hC e, hQ, hJ⟩
theorem LC_zck (h : LC z σ X P M H S) {α : Type} (f : Option α) : zck 8 σ X f = f := if_pos (LC_k h)
theorem qJ_took (hJ : qJ M) (hJH : ∀ N, N ∈ H → qJ N) : ∀ N, N ∈ (M :: H).take 6 → qJ N := fun N hN => by
  rcases List.mem_cons.mp (List.mem_of_mem_take hN) with q | q
  · rw [q]; exact hJ
  · exact hJH N q
theorem KB_in (h : KB z M) (hz : z < 700000000) : 0 ≤ M.1 0 ∧ M.1 0 < 700000000 ∧ 0 ≤ M.1 5 ∧ M.1 5 < 700000000 ∧ M.1 119 < 700000000 := ⟨h.1.1, by have := h.1.2; omega, h.2.1.1, by have := h.2.1.2; omega, by have := h.2.2; omega⟩

theorem lq_count (h : LC z σ X P M H S) (hz : z < 700000000) {x : Int} (hx : zin x) : zck 8 σ X (fX9_count σ X (zi x)) = some (σ, zi (aCount P M H.length x)) := by
  obtain ⟨nm, tx, er, ea, ou, hC, hQ, hJ, -⟩ := id h
  obtain ⟨w, q, G, V, b, hR, hF, h0, hS, hH, hN⟩ := CI_open hC hQ (by omega)
  rw [LC_zck h]
  exact cq_count hR hN hx
theorem lq_pos (h : LC z σ X P M H S) (hz : z < 700000000) {s : Nat} (hs : s < P.1) : zck 8 σ X (fX9_source σ X (zi s) (zi 3)) = some (σ, zi (M.1 (13 + s))) := by
  obtain ⟨nm, tx, er, ea, ou, hC, hQ, hJ, -⟩ := id h
  obtain ⟨w, q, G, V, b, hR, hF, h0, hS, hH, hN⟩ := CI_open hC hQ (by omega)
  rw [LC_zck h]
  have e : aSource P M (s : Int) 3 = ((0 : Int), ((M.1 (13 + s) : Int))) := by
    unfold aSource
    rw [if_pos (by omega), if_neg (by decide), if_neg (by decide), if_neg (by decide), Int.toNat_natCast]
  have k := (cq_source (a := (s : Int)) (c := 3) hR hN ⟨by omega, by have := hQ.1.1.1.1.2.1; omega⟩ ⟨by decide, by decide⟩).1 (by rw [e])
  rw [e] at k
  exact k
theorem lq_recs (h : LC z σ X P M H S) (hz : z < 700000000) {s : Nat} (hs : s < P.1) : zck 8 σ X (fX9_source σ X (zi s) (zi 0)) = some (σ, zi (P.2.2.1 s)) := by
  obtain ⟨nm, tx, er, ea, ou, hC, hQ, hJ, -⟩ := id h
  obtain ⟨w, q, G, V, b, hR, hF, h0, hS, hH, hN⟩ := CI_open hC hQ (by omega)
  rw [LC_zck h]
  have e : aSource P M (s : Int) 0 = ((0 : Int), ((P.2.2.1 s : Int))) := by
    unfold aSource
    rw [if_pos (by omega), if_pos rfl, Int.toNat_natCast]
  have k := (cq_source (a := (s : Int)) (c := 0) hR hN ⟨by omega, by have := hQ.1.1.1.1.2.1; omega⟩ ⟨by decide, by decide⟩).1 (by rw [e])
  rw [e] at k
  exact k
theorem lq_npos (h : LC z σ X P M H S) (hz : z < 700000000) {s : Nat} (hs : s < P.1) : zck 8 σ X (fX9_notedPosition σ X (zi s)) = some (σ, zi (M.1 (124 + s))) := by
  obtain ⟨nm, tx, er, ea, ou, hC, hQ, hJ, -⟩ := id h
  obtain ⟨w, q, G, V, b, hR, hF, h0, hS, hH, hN⟩ := CI_open hC hQ (by omega)
  rw [LC_zck h]
  have e : aNPos P M (s : Int) = ((0 : Int), ((M.1 (124 + s) : Int))) := by
    unfold aNPos
    rw [if_pos (by omega), Int.toNat_natCast]
  have k := (cq_npos (a := (s : Int)) hR hN ⟨by omega, by have := hQ.1.1.1.1.2.1; omega⟩).1 (by rw [e])
  rw [e] at k
  exact k
theorem lq_grp (h : LC z σ X P M H S) (hz : z < 700000000) {i : Nat} (hi : i < qmany M) : zck 8 σ X (fX9_instance σ X (zi i) (zi 0)) = some (σ, zi ((qgroups (qmany M) i : Nat))) := by
  obtain ⟨nm, tx, er, ea, ou, hC, hQ, hJ, -⟩ := id h
  obtain ⟨w, q, G, V, b, hR, hF, h0, hS, hH, hN⟩ := CI_open hC hQ (by omega)
  rw [LC_zck h]
  have e : aInst P M (i : Int) 0 = ((0 : Int), (((qgroups (qmany M) i : Nat) : Int))) := by
    unfold aInst
    rw [if_pos (by omega), if_pos rfl, Int.toNat_natCast]
  have k := (cq_inst (a := (i : Int)) (c := 0) hR hN ⟨by omega, by have := qN_many hQ.1.1.1.2.1; omega⟩ ⟨by decide, by decide⟩).1 (by rw [e])
  rw [e] at k
  exact k
theorem lq_sum (h : LC z σ X P M H S) (hz : z < 700000000) {k : Nat} (hk : k < 16) : zck 8 σ X (fX9_sum σ X (zi k)) = some (σ, zi (M.1 (17 + k))) := by
  obtain ⟨nm, tx, er, ea, ou, hC, hQ, hJ, -⟩ := id h
  obtain ⟨w, q, G, V, b, hR, hF, h0, hS, hH, hN⟩ := CI_open hC hQ (by omega)
  rw [LC_zck h]
  have e : aSum M (k : Int) = ((0 : Int), ((M.1 (17 + k) : Int))) := by
    unfold aSum
    rw [if_pos (by omega), Int.toNat_natCast]
  have k := (cq_sum (k := (k : Int)) hR hN ⟨by omega, by omega⟩).1 (by rw [e])
  rw [e] at k
  exact k
theorem lq_nsum (h : LC z σ X P M H S) (hz : z < 700000000) {k : Nat} (hk : k < 16) : zck 8 σ X (fX9_notedSum σ X (zi k)) = some (σ, zi (M.1 (128 + k))) := by
  obtain ⟨nm, tx, er, ea, ou, hC, hQ, hJ, -⟩ := id h
  obtain ⟨w, q, G, V, b, hR, hF, h0, hS, hH, hN⟩ := CI_open hC hQ (by omega)
  rw [LC_zck h]
  have e : aNSum M (k : Int) = ((0 : Int), ((M.1 (128 + k) : Int))) := by
    unfold aNSum
    rw [if_pos (by omega), Int.toNat_natCast]
  have k := (cq_nsum (a := (k : Int)) hR hN ⟨by omega, by omega⟩).1 (by rw [e])
  rw [e] at k
  exact k
theorem lq_owner (h : LC z σ X P M H S) (hz : z < 700000000) {k : Nat} (hk : k < 16) : zck 8 σ X (fX9_owner σ X (zi k)) = some (σ, zi ((qown k (qmany M) : Nat))) := by
  obtain ⟨nm, tx, er, ea, ou, hC, hQ, hJ, -⟩ := id h
  obtain ⟨w, q, G, V, b, hR, hF, h0, hS, hH, hN⟩ := CI_open hC hQ (by omega)
  rw [LC_zck h]
  have e : aOwner M (k : Int) = ((0 : Int), (((qown k (qmany M) : Nat) : Int))) := by
    unfold aOwner
    rw [if_pos (by omega), Int.toNat_natCast]
  have k := (cq_owner (k := (k : Int)) hR hN ⟨by omega, by omega⟩).1 (by rw [e])
  rw [e] at k
  exact k
theorem lq_shownOf (h : LC z σ X P M H S) (hz : z < 700000000) {k : Nat} (hk : k < 16) : zck 8 σ X (fX9_shownOf σ X (zi k)) = some (σ, zi (((qf P k (M.2.1 (28 + qsk P k))).length : Nat))) := by
  obtain ⟨nm, tx, er, ea, ou, hC, hQ, hJ, -⟩ := id h
  obtain ⟨w, q, G, V, b, hR, hF, h0, hS, hH, hN⟩ := CI_open hC hQ (by omega)
  rw [LC_zck h]
  have e : aShownOf P M (k : Int) = ((0 : Int), ((((qf P k (M.2.1 (28 + qsk P k))).length : Nat) : Int))) := by
    unfold aShownOf
    rw [if_pos (by omega), Int.toNat_natCast]
  have k := (cq_shownOf (a := (k : Int)) hR hN ⟨by omega, by omega⟩).1 (by rw [e])
  rw [e] at k
  exact k
theorem lq_snk (h : LC z σ X P M H S) (hz : z < 700000000) {j : Nat} (hj : j < P.2.1) : zck 8 σ X (fX9_sink σ X (zi j) (zi 2)) = some (σ, zi (((M.2.1 (28 + j)).length : Nat))) := by
  obtain ⟨nm, tx, er, ea, ou, hC, hQ, hJ, -⟩ := id h
  obtain ⟨w, q, G, V, b, hR, hF, h0, hS, hH, hN⟩ := CI_open hC hQ (by omega)
  rw [LC_zck h]
  have e : aSink P M (j : Int) 2 = ((0 : Int), ((((M.2.1 (28 + j)).length : Nat) : Int))) := by
    unfold aSink
    rw [if_pos (by omega), if_neg (by decide), if_neg (by decide), if_pos rfl, Int.toNat_natCast]
  have k := (cq_sink (a := (j : Int)) (c := 2) hR hN ⟨by omega, by have := hQ.1.1.1.1.2.2.2.1; omega⟩ ⟨by decide, by decide⟩).1 (by rw [e])
  rw [e] at k
  exact k
theorem lq_shown0 (h : LC z σ X P M H S) (hz : z < 700000000) {j i : Nat} (hj : j < P.2.1) (hi : i < (M.2.1 (28 + j)).length) : zck 8 σ X (fX9_shown σ X (zi j) (zi i) (zi 0)) = some (σ, zi ((qkey P ((M.2.1 (28 + j)).getD i 0) : Nat))) := by
  obtain ⟨nm, tx, er, ea, ou, hC, hQ, hJ, -⟩ := id h
  obtain ⟨w, q, G, V, b, hR, hF, h0, hS, hH, hN⟩ := CI_open hC hQ (by omega)
  rw [LC_zck h]
  have e : aShown P M (j : Int) (i : Int) 0 = ((0 : Int), (((qkey P ((M.2.1 (28 + j)).getD i 0) : Nat) : Int))) := by
    unfold aShown
    rw [if_pos (by omega), Int.toNat_natCast, if_pos (by omega), if_pos rfl, Int.toNat_natCast]
  have k := (cq_shown (a := (j : Int)) (i := (i : Int)) (c := 0) hR hN ⟨by omega, by have := hQ.1.1.1.1.2.2.2.1; omega⟩ ⟨by omega, by have := hQ.1.1.1.1.2.2.2.1; have := (qI_len hQ.1.1 (c := 28 + j) (by omega)).1; omega⟩ ⟨by decide, by decide⟩).1 (by rw [e])
  rw [e] at k
  exact k
theorem lq_shown1 (h : LC z σ X P M H S) (hz : z < 700000000) {j i : Nat} (hj : j < P.2.1) (hi : i < (M.2.1 (28 + j)).length) : zck 8 σ X (fX9_shown σ X (zi j) (zi i) (zi 1)) = some (σ, zi ((qres P ((M.2.1 (28 + j)).getD i 0) : Nat))) := by
  obtain ⟨nm, tx, er, ea, ou, hC, hQ, hJ, -⟩ := id h
  obtain ⟨w, q, G, V, b, hR, hF, h0, hS, hH, hN⟩ := CI_open hC hQ (by omega)
  rw [LC_zck h]
  have e : aShown P M (j : Int) (i : Int) 1 = ((0 : Int), (((qres P ((M.2.1 (28 + j)).getD i 0) : Nat) : Int))) := by
    unfold aShown
    rw [if_pos (by omega), Int.toNat_natCast, if_pos (by omega), if_neg (by decide), Int.toNat_natCast]
  have k := (cq_shown (a := (j : Int)) (i := (i : Int)) (c := 1) hR hN ⟨by omega, by have := hQ.1.1.1.1.2.2.2.1; omega⟩ ⟨by omega, by have := hQ.1.1.1.1.2.2.2.1; have := (qI_len hQ.1.1 (c := 28 + j) (by omega)).1; omega⟩ ⟨by decide, by decide⟩).1 (by rw [e])
  rw [e] at k
  exact k
theorem lq_exp (h : LC z σ X P M H S) (hz : z < 700000000) {k m : Nat} (hk : k < 16) (hm : 1 ≤ m) (hm2 : m < 100000) : zck 8 σ X (fX9_expected σ X (zi k) (zi m)) = some (σ, zi (qexp P k m)) := by
  obtain ⟨nm, tx, er, ea, ou, hC, hQ, hJ, -⟩ := id h
  obtain ⟨w, q, G, V, b, hR, hF, h0, hS, hH, hN⟩ := CI_open hC hQ (by omega)
  rw [LC_zck h]
  have e : aExp P (k : Int) (m : Int) = (0, qexp P k m) := by
    unfold aExp
    rw [if_pos (by omega), Int.toNat_natCast, Int.toNat_natCast]
  have k9 := (cq_exp (k := (k : Int)) (m := (m : Int)) hR ⟨by omega, by omega⟩ ⟨by omega, by omega⟩).1 (by rw [e])
  rw [e] at k9
  exact k9
theorem lq_prog (h : LC z σ X P M H S) (hz : z < 700000000) : zck 8 σ X (fX9_progress σ X (zi 0)) = some (σ, zi (if M.1 67 = 1 then M.1 5 else -1)) := by
  obtain ⟨nm, tx, er, ea, ou, hC, hQ, hJ, -⟩ := id h
  obtain ⟨w, q, G, V, b, hR, hF, h0, hS, hH, hN⟩ := CI_open hC hQ (by omega)
  rw [LC_zck h]
  have e : aProg M 0 = ((0 : Int), ((if M.1 67 = 1 then M.1 5 else -1 : Int))) := by
    unfold aProg
    rw [if_pos (by omega), if_pos rfl]
  have k := (cq_prog (c := 0) hR hN ⟨by decide, by decide⟩).1 (by rw [e])
  rw [e] at k
  exact k
theorem lq_comp0 (h : LC z σ X P M H S) (hz : z < 700000000) : zck 8 σ X (fX9_completed σ X (zi 0)) = some (σ, zi (if M.1 118 = 1 then M.1 119 else -1)) := by
  obtain ⟨nm, tx, er, ea, ou, hC, hQ, hJ, -⟩ := id h
  obtain ⟨w, q, G, V, b, hR, hF, h0, hS, hH, hN⟩ := CI_open hC hQ (by omega)
  rw [LC_zck h]
  have e : aComp M 0 = ((0 : Int), ((if M.1 118 = 1 then M.1 119 else -1 : Int))) := by
    unfold aComp
    rw [if_pos (by omega), if_pos rfl]
  have k := (cq_comp (c := 0) hR hN ⟨by decide, by decide⟩).1 (by rw [e])
  rw [e] at k
  exact k
theorem lq_comp4 (h : LC z σ X P M H S) (hz : z < 700000000) : zck 8 σ X (fX9_completed σ X (zi 4)) = some (σ, zi (if M.1 118 = 1 then (gtot M 54 : Int) else -1)) := by
  obtain ⟨nm, tx, er, ea, ou, hC, hQ, hJ, -⟩ := id h
  obtain ⟨w, q, G, V, b, hR, hF, h0, hS, hH, hN⟩ := CI_open hC hQ (by omega)
  rw [LC_zck h]
  have e : aComp M 4 = ((0 : Int), ((if M.1 118 = 1 then (gtot M 54 : Int) else -1 : Int))) := by
    unfold aComp
    rw [if_pos (by omega)]
    rfl
  have k := (cq_comp (c := 4) hR hN ⟨by decide, by decide⟩).1 (by rw [e])
  rw [e] at k
  exact k
theorem lq_risk (h : LC z σ X P M H S) (hz : z < 700000000) : zck 8 σ X (fX9_atRisk σ X) = some (σ, zi (qrisk P M)) := by
  obtain ⟨nm, tx, er, ea, ou, hC, hQ, hJ, -⟩ := id h
  obtain ⟨w, q, G, V, b, hR, hF, h0, hS, hH, hN⟩ := CI_open hC hQ (by omega)
  rw [LC_zck h]
  exact cq_risk hR.1 hN
theorem la_run (h : LC z σ X P M H S) (hz : z < 700000000) {t : Nat} (ht : 1 ≤ t ∧ t ≤ 500) : ∃ τ, zck 8 σ X (fX9_run σ X (zi t)) = some (τ, zi ((qit P t M).1 6 - M.1 6)) ∧ LC (z + 501) τ X P (qit P t M) ((M :: H).take 6) S ∧ zfr X (X + 307) σ τ := by
  obtain ⟨nm, tx, er, ea, ou, hC, hQ, hJ, hJH, hJS⟩ := id h
  rw [LC_zck h]
  obtain ⟨τ, e, c, f⟩ := (ca_run (t := (t : Int)) hC hQ (by omega) ⟨by omega, by omega⟩).1 (by unfold aTicks; rw [decide_eq_true_iff]; omega)
  refine ⟨τ, e, ⟨nm, tx, er, ea, ou, c, QI_run hQ ht.2, qJ_it hQ.1.1 hQ.1.2 hJ t, qJ_took hJ hJH, hJS⟩, f⟩
theorem la_begin (h : LC z σ X P M H S) (hz : z < 700000000) {d : Bool} (h67 : M.1 67 ≠ 1) : ∃ τ, zck 8 σ X (fX9_begin σ X (zb d)) = some (τ, zi (M.1 5 + 1)) ∧ LC (z + 501) τ X P (qbegin (if d then 1 else 0) M) ((M :: H).take 6) S ∧ zfr X (X + 307) σ τ := by
  obtain ⟨nm, tx, er, ea, ou, hC, hQ, hJ, hJH, hJS⟩ := id h
  rw [LC_zck h]
  obtain ⟨τ, e, c, f⟩ := (ca_begin (d := d) hC hQ (by omega)).1 h67
  refine ⟨τ, e, ⟨nm, tx, er, ea, ou, c, QI_begin hQ (by cases d <;> simp) h67, qJ_begin hQ.1.1 hJ h67, qJ_took hJ hJH, hJS⟩, f⟩
theorem la_fail (h : LC z σ X P M H S) (hz : z < 700000000) : ∃ τ, zck 8 σ X (fX9_fail σ X) = some (τ, zi (qrisk P M)) ∧ LC (z + 501) τ X P (qfail P M) ((M :: H).take 6) S ∧ zfr X (X + 307) σ τ := by
  obtain ⟨nm, tx, er, ea, ou, hC, hQ, hJ, hJH, hJS⟩ := id h
  rw [LC_zck h]
  obtain ⟨τ, e, c, f⟩ := ca_fail hC hQ (by omega)
  refine ⟨τ, e, ⟨nm, tx, er, ea, ou, c, QI_fail hQ, qJ_fail hQ.1.1 hJ, qJ_took hJ hJH, hJS⟩, f⟩
theorem la_resc (h : LC z σ X P M H S) (hz : z < 700000000) {n : Nat} (hn : 1 ≤ n ∧ n ≤ 4) : ∃ τ, zck 8 σ X (fX9_rescale σ X (zi n)) = some (τ, zi (qmoved (qmany M) n)) ∧ LC (z + 501) τ X P (qrescale P n M) ((M :: H).take 6) S ∧ zfr X (X + 307) σ τ := by
  obtain ⟨nm, tx, er, ea, ou, hC, hQ, hJ, hJH, hJS⟩ := id h
  rw [LC_zck h]
  obtain ⟨τ, e, c, f⟩ := (ca_resc (n := (n : Int)) hC hQ (by omega) ⟨by omega, by omega⟩).1 (by omega)
  refine ⟨τ, e, ⟨nm, tx, er, ea, ou, c, QI_resc hQ hn, qJ_rescale hQ.1.1 hJ, qJ_took hJ hJH, hJS⟩, f⟩
theorem la_room (h : LC z σ X P M H S) (hz : z < 700000000) {r : Int} (hr : 1 ≤ r ∧ r ≤ 9) : ∃ τ, zck 8 σ X (fX9_setRoom σ X (zi r)) = some (τ, zi (M.1 2)) ∧ LC (z + 501) τ X P (qS M 2 r) ((M :: H).take 6) S ∧ zfr X (X + 307) σ τ := by
  obtain ⟨nm, tx, er, ea, ou, hC, hQ, hJ, hJH, hJS⟩ := id h
  rw [LC_zck h]
  obtain ⟨τ, e, c, f⟩ := (ca_room (r := r) hC hQ (by omega) ⟨by omega, by omega⟩).1 hr
  refine ⟨τ, e, ⟨nm, tx, er, ea, ou, c, QI_room hQ hr, qJ_num hJ (by omega), qJ_took hJ hJH, hJS⟩, f⟩
theorem la_lag (h : LC z σ X P M H S) (hz : z < 700000000) {r : Int} (hr : 0 ≤ r ∧ r ≤ 9) : ∃ τ, zck 8 σ X (fX9_setLag σ X (zi 0) (zi r)) = some (τ, zi (M.1 9)) ∧ LC (z + 501) τ X P (qS M 9 r) ((M :: H).take 6) S ∧ zfr X (X + 307) σ τ := by
  obtain ⟨nm, tx, er, ea, ou, hC, hQ, hJ, hJH, hJS⟩ := id h
  rw [LC_zck h]
  obtain ⟨τ, e, c, f⟩ := (ca_lag (a := 0) (r := r) hC hQ (by omega) ⟨by omega, by omega⟩ ⟨by omega, by omega⟩).1 ⟨⟨by omega, by have := hQ.1.1.1.1.1; omega⟩, hr⟩
  refine ⟨τ, e, ⟨nm, tx, er, ea, ou, c, QI_lag (a := 0) hQ (by omega) hr, qJ_num hJ (by omega), qJ_took hJ hJH, hJS⟩, f⟩
theorem la_every (h : LC z σ X P M H S) (hz : z < 700000000) {r : Int} {d : Bool} (hr : 0 ≤ r ∧ r ≤ 99) : ∃ τ, zck 8 σ X (fX9_setEvery σ X (zi r) (zb d)) = some (τ, zi (M.1 3)) ∧ LC (z + 501) τ X P (qS (qS M 3 r) 4 (if d then 1 else 0)) ((M :: H).take 6) S ∧ zfr X (X + 307) σ τ := by
  obtain ⟨nm, tx, er, ea, ou, hC, hQ, hJ, hJH, hJS⟩ := id h
  rw [LC_zck h]
  obtain ⟨τ, e, c, f⟩ := (ca_every (r := r) (d := d) hC hQ (by omega) ⟨by omega, by omega⟩).1 hr
  refine ⟨τ, e, ⟨nm, tx, er, ea, ou, c, QI_every hQ hr, qJ_num (qJ_num hJ (by omega)) (by omega), qJ_took hJ hJH, hJS⟩, f⟩
theorem la_undo (h : LC z σ X P M (N :: H) S) (hz : z < 700000000) : ∃ τ, zck 8 σ X (fX9_undo σ X) = some (τ, zi H.length) ∧ LC (z + 501) τ X P (N) H S ∧ zfr X (X + 307) σ τ := by
  obtain ⟨nm, tx, er, ea, ou, hC, hQ, hJ, hJH, hJS⟩ := id h
  rw [LC_zck h]
  obtain ⟨τ, e, c, f⟩ := ca_undo hC hQ (by omega)
  refine ⟨τ, e, ⟨nm, tx, er, ea, ou, c, QI_up (QI_undo hQ) (by omega), hJH N List.mem_cons_self, fun K hK => hJH K (List.mem_cons_of_mem N hK), hJS⟩, f⟩
theorem la_complIn (h : LC z σ X P M H S) (hz : z < 700000000) {t : Nat} (ht : 1 ≤ t ∧ t ≤ 500) : ∃ τ, zck 8 σ X (fX9_completesIn σ X (zi t)) = some (τ, zi (if M.1 67 = 1 then qcw P M t else -1)) ∧ LC (z + 501) τ X P (M) H S ∧ zfr X (X + 307) σ τ := by
  obtain ⟨nm, tx, er, ea, ou, hC, hQ, hJ, hJH, hJS⟩ := id h
  rw [LC_zck h]
  obtain ⟨τ, e, c, f⟩ := (show ∃ τ, fX9_completesIn σ X (zi t) = some (τ, zi (if M.1 67 = 1 then qcw P M t else -1)) ∧ CI τ X P nm M H S tx er ea ou ∧ zfr X (X + 307) σ τ from by
    have e9 : aComplIn P M (t : Int) = (0, if M.1 67 = 1 then qcw P M t else -1) := by
      unfold aComplIn
      rw [if_pos (by unfold aTicks; rw [decide_eq_true_iff]; omega), Int.toNat_natCast]
    have k := (ca_complIn (t := (t : Int)) hC hQ (by omega) ⟨by omega, by omega⟩).1 (by rw [e9])
    rw [e9] at k
    exact k)
  refine ⟨τ, e, ⟨nm, tx, er, ea, ou, c, QI_up hQ (by omega), hJ, hJH, hJS⟩, f⟩
theorem la_take (h : LC z σ X P M H S) (hz : z < 700000000) : ∃ τ, zck 8 σ X (fX9_wouldTake σ X (zb true)) = some (τ, zi (aTake P M 1)) ∧ LC (z + 501) τ X P (M) H S ∧ zfr X (X + 307) σ τ := by
  obtain ⟨nm, tx, er, ea, ou, hC, hQ, hJ, hJH, hJS⟩ := id h
  rw [LC_zck h]
  obtain ⟨τ, e, c, f⟩ := ca_take (d := true) hC hQ (by omega)
  refine ⟨τ, e, ⟨nm, tx, er, ea, ou, c, QI_up hQ (by omega), hJ, hJH, hJS⟩, f⟩
theorem la_keep (h : LC z σ X P M H S) (hz : z < 700000000) : ∃ τ, zck 8 σ X (fX9_wouldKeep σ X) = some (τ, zi (aKeep P M)) ∧ LC (z + 501) τ X P (M) H S ∧ zfr X (X + 307) σ τ := by
  obtain ⟨nm, tx, er, ea, ou, hC, hQ, hJ, hJH, hJS⟩ := id h
  rw [LC_zck h]
  obtain ⟨τ, e, c, f⟩ := ca_keep hC hQ (by omega)
  refine ⟨τ, e, ⟨nm, tx, er, ea, ou, c, QI_up hQ (by omega), hJ, hJH, hJS⟩, f⟩
theorem la_save (h : LC z σ X P M H S) (hz : z < 700000000) : ∃ τ, zck 8 σ X (fX9_saveState σ X) = some (τ, zi (M.1 0)) ∧ LC (z + 501) τ X P (M) H (some M) ∧ zfr X (X + 307) σ τ := by
  obtain ⟨nm, tx, er, ea, ou, hC, hQ, hJ, hJH, hJS⟩ := id h
  rw [LC_zck h]
  obtain ⟨τ, e, c, f⟩ := ca_save hC hQ (by omega)
  refine ⟨τ, e, ⟨nm, tx, er, ea, ou, c, QI_up (QI_save hQ) (by omega), hJ, hJH, fun N hN => (by cases hN; exact hJ)⟩, f⟩
theorem la_rest (h : LC z σ X P M H (some N)) (hz : z < 700000000) : ∃ τ, zck 8 σ X (fX9_restoreState σ X) = some (τ, zi (N.1 0)) ∧ LC (z + 501) τ X P N [] (some N) ∧ zfr X (X + 307) σ τ := by
  obtain ⟨nm, tx, er, ea, ou, hC, hQ, hJ, hJH, hJS⟩ := id h
  rw [LC_zck h]
  obtain ⟨τ, e, c, f⟩ := ca_restore hC hQ (by omega)
  refine ⟨τ, e, ⟨nm, tx, er, ea, ou, c, QI_up (QI_rest hQ) (by omega), hJS N rfl, fun K hK => (by cases hK), hJS⟩, f⟩
theorem la_beginX {d : Bool} (h : LC z σ X P M H S) (hz : z < 700000000) (h67 : M.1 67 = 1) : tX9_begin σ X (zb d) = some 3 := by
  obtain ⟨nm, tx, er, ea, ou, hC, hQ, hJ, hJH, hJS⟩ := id h
  exact (ca_begin (d := d) hC hQ (by omega)).2 h67
end LQ
