/-! EACH CALL ON BOTH SIDES: the class at X, the reference at X + 307, the row for answers at X + 322. -/
def J (X : Nat) (z : Int) (σ : zS) : Prop := ∃ P nm M H S tx er ea ou, CI σ X P nm M H S tx er ea ou ∧ RI σ (X + 307) P nm M H S tx er ea ou ∧ QI z P M H S ∧ TB tx ∧ σ.1 (X + 322) = (3, 1)
/-- a call that may throw: fl the wrapper's function, t9 what the class throws, fr the reference's function; K: which kinds are which codes -/
def JB (X : Nat) (z : Int) (σ : zS) (K : Nat → Int → Prop) (fl : Option (zS × Int32)) (t9 : Option Nat) (fr : zS → Option (zS × Int32)) : Prop :=
  (∃ σ1 σ2 a, fl = some (σ1, zi 0) ∧ fr σ1 = some (σ2, a) ∧ fX10_thrown σ2 (X + 307) = some (σ2, zi 0) ∧ zaJ σ2 (X + 322) (zi 0) = some a.toInt64 ∧ σ1.1 = σ.1 ∧ σ2.1 = σ.1 ∧ J X z σ2) ∨
  ∃ σ2 a k c, t9 = some k ∧ fr σ = some (σ2, a) ∧ fX10_thrown σ2 (X + 307) = some (σ2, zi c) ∧ K k c ∧ σ2.1 = σ.1 ∧ J X z σ2
/-- a call that always answers -/
def JA (X : Nat) (z : Int) (σ : zS) (f9 : Option (zS × Int32)) (fr : zS → Option (zS × Int32)) : Prop := ∃ σ1 σ2 a, f9 = some (σ1, a) ∧ fr σ1 = some (σ2, a) ∧ σ1.1 = σ.1 ∧ σ2.1 = σ.1 ∧ J X z σ2
section JJ
variable {σ τ σ1 σ2 s3 : zS} {X m lo hi : Nat} {P P2 : qP} {M M2 N : qM} {H H2 : List qM} {S S2 : Option qM} {nm nm2 : Nat → List Int32} {tx tx2 ou ou2 : List Int32} {er ea er2 ea2 z y : Int} {K : Nat → Int → Prop} {f9 fl : Option (zS × Int32)} {t9 : Option Nat} {fr : zS → Option (zS × Int32)}
theorem i32_of (v : Int32) : ∃ x : Int, zin x ∧ v = zi x := ⟨v.toInt, ⟨Int32.le_toInt v, Int32.toInt_lt v⟩, (Int32.ofInt_toInt v).symm⟩
theorem RI_far2 (h : RI σ m P nm M H S tx er ea ou) (e : zfr lo hi σ τ) (hd : hi ≤ m ∨ m + 15 ≤ lo) : RI τ m P nm M H S tx er ea ou := by
  obtain ⟨e1, e2⟩ := e
  obtain ⟨⟨a1, a2, a3, a4⟩, b, c, d, f, g, i⟩ := h
  have q : ∀ o, o < 15 → τ.2.1 (m + o) = σ.2.1 (m + o) := fun o ho => (e2 (m + o) (by omega)).1
  have q0 : τ.2.1 m = σ.2.1 m := q 0 (by omega)
  have r0 : τ.2.2.1 m = σ.2.2.1 m := (e2 m (by omega)).2.1
  refine ⟨⟨?_, ?_, by rw [q 4 (by omega)]; exact a3, a4⟩, ?_, ?_, ?_, ?_, ?_, ?_⟩
  · unfold rsh
    rw [e1, r0]
    exact a1
  · unfold rset
    rw [q0, q 1 (by omega), q 2 (by omega)]
    exact a2
  · unfold RNm
    rw [(e2 (m + 3) (by omega)).2.2]
    exact b
  · unfold RHi
    rw [q0, q 9 (by omega)]
    exact c
  · unfold RSv
    rw [q0, q 8 (by omega)]
    exact d
  · unfold RTx
    rw [q0, q 10 (by omega)]
    exact f
  · rw [q0]
    exact g
  · unfold ROu
    rw [q0, q 14 (by omega)]
    exact i
theorem RI_0 {v : Int32} (h : RI σ m P nm M H S tx er ea ou) : RI (zuI σ m 0 v) m P nm M H S tx er ea ou :=
  RI_fr h rfl rfl rfl (fun j hj => if_neg (by omega)) (fun o ho => zu_off _ _ _ (by omega))
theorem zfr_0 {v : Int32} : zfr m (m + 15) σ (zuI σ m 0 v) := zfr_wide zfr_I (Nat.le_refl _) (by omega)
theorem at_0 {v : Int32} : (zuI σ m 0 v).2.1 m 0 = v := if_pos ⟨rfl, rfl⟩
theorem r_thrown {c : Int} (h : RI σ m P nm M H S tx er ea ou) (h0 : σ.2.1 m 0 = zi c) : fX10_thrown σ m = some (σ, zi c) := by
  unfold fX10_thrown
  rw [rg_i h.1.1, Option.bind_some, h0]
theorem JB_ok {a : Int} (e1 : f9 = some (σ1, zi a)) (hC : CI σ1 X P2 nm2 M2 H2 S2 tx2 er2 ea2 ou2) (z1 : zfr X (X + 307) σ σ1) (hR : RI σ (X + 307) P nm M H S tx er ea ou)
    (hr : ∀ s2, RI s2 (X + 307) P nm M H S tx er ea ou → ∃ s3, fr s2 = some (s3, zi a) ∧ RI s3 (X + 307) P2 nm2 M2 H2 S2 tx2 er2 ea2 ou2 ∧ zfr (X + 307) (X + 307 + 15) s2 s3 ∧ s3.2.1 (X + 307) 0 = zi 0) (hQ : QI y P2 M2 H2 S2) (hT : TB tx2) (hk : σ.1 (X + 322) = (3, 1)) (hX : (σ.1 X).1 = 13) :
    JB X y σ K ((zck 8 σ X f9).bind fun c1 => (zsJ c1.1 (X + 322) (zi 0) c1.2.toInt64).bind fun σ2 => some (σ2, zi 0)) t9 fr := by
  have hk1 : σ1.1 (X + 322) = (3, 1) := by rw [z1.1]; exact hk
  have es : zsJ σ1 (X + 322) (zi 0) (zi a).toInt64 = some (zuJ σ1 (X + 322) 0 (zi a).toInt64) := zsJ_of (x := 0) 0 hk1 rfl (by omega) (by omega)
  have zJ : zfr (X + 322) (X + 323) σ1 (zuJ σ1 (X + 322) 0 (zi a).toInt64) := zfr_J
  have hR2 : RI (zuJ σ1 (X + 322) 0 (zi a).toInt64) (X + 307) P nm M H S tx er ea ou := RI_far2 (RI_far2 hR z1 (by omega)) zJ (by omega)
  obtain ⟨s3, e3, hR3, z3, h0⟩ := hr _ hR2
  refine Or.inl ⟨zuJ σ1 (X + 322) 0 (zi a).toInt64, s3, zi a, ?_, e3, r_thrown hR3 h0, ?_, z1.1, z3.1.trans z1.1, P2, nm2, M2, H2, S2, tx2, er2, ea2, ou2, CI_far (CI_far hC (zfr_wide (h2 := X + 322 + 15) zJ (Nat.le_refl _) (by omega)) (by omega)) z3 (by omega), hR3, hQ, hT, ?_⟩
  · rw [show zck 8 σ X f9 = f9 from if_pos hX, e1, Option.bind_some]
    dsimp only
    rw [es, Option.bind_some]
  · have hk3 : s3.1 (X + 322) = (3, 1) := by rw [z3.1]; exact hk1
    have e4 : s3.2.2.2 (X + 322) 0 = (zi a).toInt64 := by
      rw [(z3.2 (X + 322) (by omega)).2.2]
      exact if_pos ⟨rfl, rfl⟩
    unfold zaJ
    rw [hk3]
    dsimp only
    rw [if_pos rfl, if_neg (by decide)]
    exact congrArg some e4
  · rw [z3.1]
    exact hk1
theorem JB_no {k : Nat} {c : Int} {b : Int32} (ht : t9 = some k) (e3 : fr σ = some (s3, b)) (hR3 : RI s3 (X + 307) P nm M H S tx er ea ou) (z3 : zfr (X + 307) (X + 307 + 15) σ s3) (h0 : s3.2.1 (X + 307) 0 = zi c) (hK : K k c) (hC : CI σ X P nm M H S tx er ea ou) (hQ : QI y P M H S) (hT : TB tx) (hk : σ.1 (X + 322) = (3, 1)) : JB X y σ K fl t9 fr :=
  Or.inr ⟨s3, b, k, c, ht, e3, r_thrown hR3 h0, hK, z3.1, P, nm, M, H, S, tx, er, ea, ou, CI_far hC z3 (by omega), hR3, hQ, hT, by rw [z3.1]; exact hk⟩
theorem JA_ok {a : Int32} (e1 : f9 = some (σ1, a)) (hC : CI σ1 X P2 nm2 M2 H2 S2 tx2 er2 ea2 ou2) (z1 : zfr X (X + 307) σ σ1) (hR : RI σ (X + 307) P nm M H S tx er ea ou)
    (hr : ∀ s2, RI s2 (X + 307) P nm M H S tx er ea ou → ∃ s3, fr s2 = some (s3, a) ∧ RI s3 (X + 307) P2 nm2 M2 H2 S2 tx2 er2 ea2 ou2 ∧ zfr (X + 307) (X + 307 + 15) s2 s3) (hQ : QI y P2 M2 H2 S2) (hT : TB tx2) (hk : σ.1 (X + 322) = (3, 1)) : JA X y σ f9 fr := by
  obtain ⟨s3, e3, hR3, z3⟩ := hr _ (RI_far2 hR z1 (by omega))
  exact ⟨σ1, s3, a, e1, e3, z1.1, z3.1.trans z1.1, P2, nm2, M2, H2, S2, tx2, er2, ea2, ou2, CI_far hC z3 (by omega), hR3, hQ, hT, by rw [z3.1, z1.1]; exact hk⟩
theorem CI_k (h : CI σ X P nm M H S tx er ea ou) : (σ.1 X).1 = 13 := by
  obtain ⟨w, q, G, hR, -⟩ := h
  exact hR.1.1
theorem J_k (h : J X z σ) : (σ.1 X).1 = 13 ∧ (σ.1 (X + 307)).1 = 14 ∧ σ.1 (X + 322) = (3, 1) := by
  obtain ⟨P, nm, M, H, S, tx, er, ea, ou, h1, h2, -, -, h5⟩ := h
  exact ⟨CI_k h1, h2.1.1.1, h5⟩
theorem j_count (h : J X z σ) (h0 : 0 ≤ z) (hz : z < 700000000) (vx : Int32) : JA X (z + 501) σ (fX9_count σ X vx) (fun s => fX10_count s (X + 307) vx) := by
  obtain ⟨P, nm, M, H, S, tx, er, ea, ou, hC, hR, hQ, hT, hk⟩ := h
  obtain ⟨w, q, G, V, b, hCR, hFW, hG0, hGS, hGH, hCN⟩ := CI_open hC hQ (by omega)
  have hU := QI_up hQ (show z ≤ z + 501 by omega)
  obtain ⟨x, hx, rfl⟩ := i32_of vx
  exact JA_ok (cq_count hCR hCN hx) hC (zfr_refl _ _ _) hR (fun s hs => ⟨_, rq_count hs.1 hs.2.2.1.1 hx, RI_0 hs, zfr_0⟩) hU hT hk
theorem j_errorCode (h : J X z σ) (h0 : 0 ≤ z) (hz : z < 700000000) : JA X (z + 501) σ (fX9_errorCode σ X ) (fun s => fX10_errorCode s (X + 307) ) := by
  obtain ⟨P, nm, M, H, S, tx, er, ea, ou, hC, hR, hQ, hT, hk⟩ := h
  obtain ⟨w, q, G, V, b, hCR, hFW, hG0, hGS, hGH, hCN⟩ := CI_open hC hQ (by omega)
  have hU := QI_up hQ (show z ≤ z + 501 by omega)
  exact JA_ok (ca_ecode hC) hC (zfr_refl _ _ _) hR (fun s hs => ⟨_, rc_ecode hs, RI_0 hs, zfr_0⟩) hU hT hk
theorem j_errorOffset (h : J X z σ) (h0 : 0 ≤ z) (hz : z < 700000000) : JA X (z + 501) σ (fX9_errorOffset σ X ) (fun s => fX10_errorOffset s (X + 307) ) := by
  obtain ⟨P, nm, M, H, S, tx, er, ea, ou, hC, hR, hQ, hT, hk⟩ := h
  obtain ⟨w, q, G, V, b, hCR, hFW, hG0, hGS, hGH, hCN⟩ := CI_open hC hQ (by omega)
  have hU := QI_up hQ (show z ≤ z + 501 by omega)
  exact JA_ok (ca_eoff hC) hC (zfr_refl _ _ _) hR (fun s hs => ⟨_, rc_eoff hs, RI_0 hs, zfr_0⟩) hU hT hk
theorem j_atRisk (h : J X z σ) (h0 : 0 ≤ z) (hz : z < 700000000) : JA X (z + 501) σ (fX9_atRisk σ X ) (fun s => fX10_atRisk s (X + 307) ) := by
  obtain ⟨P, nm, M, H, S, tx, er, ea, ou, hC, hR, hQ, hT, hk⟩ := h
  obtain ⟨w, q, G, V, b, hCR, hFW, hG0, hGS, hGH, hCN⟩ := CI_open hC hQ (by omega)
  have hU := QI_up hQ (show z ≤ z + 501 by omega)
  exact JA_ok (cq_risk hCR.1 hCN) hC (zfr_refl _ _ _) hR (fun s hs => ⟨_, rq_risk hs.1, RI_0 hs, zfr_0⟩) hU hT hk
theorem j_fullest (h : J X z σ) (h0 : 0 ≤ z) (hz : z < 700000000) : JA X (z + 501) σ (fX9_fullest σ X ) (fun s => fX10_fullest s (X + 307) ) := by
  obtain ⟨P, nm, M, H, S, tx, er, ea, ou, hC, hR, hQ, hT, hk⟩ := h
  obtain ⟨w, q, G, V, b, hCR, hFW, hG0, hGS, hGH, hCN⟩ := CI_open hC hQ (by omega)
  have hU := QI_up hQ (show z ≤ z + 501 by omega)
  exact JA_ok (cq_full hCR hCN) hC (zfr_refl _ _ _) hR (fun s hs => ⟨_, rq_full hs.1, RI_0 hs, zfr_0⟩) hU hT hk
theorem j_outputByte (h : J X z σ) (h0 : 0 ≤ z) (hz : z < 700000000) (vi : Int32) : JA X (z + 501) σ (fX9_outputByte σ X vi) (fun s => fX10_outputByte s (X + 307) vi) := by
  obtain ⟨P, nm, M, H, S, tx, er, ea, ou, hC, hR, hQ, hT, hk⟩ := h
  obtain ⟨w, q, G, V, b, hCR, hFW, hG0, hGS, hGH, hCN⟩ := CI_open hC hQ (by omega)
  have hU := QI_up hQ (show z ≤ z + 501 by omega)
  obtain ⟨i, hi, rfl⟩ := i32_of vi
  exact JA_ok (ca_byte hC hi) hC (zfr_refl _ _ _) hR (fun s hs => ⟨_, rc_byte hs hi, RI_0 hs, zfr_0⟩) hU hT hk
theorem j_feed (h : J X z σ) (h0 : 0 ≤ z) (hz : z < 700000000) (va vb vc vd ve : Int32) : JA X (z + 501) σ (fX9_feed σ X va vb vc vd ve) (fun s => fX10_feed s (X + 307) va vb vc vd ve) := by
  obtain ⟨P, nm, M, H, S, tx, er, ea, ou, hC, hR, hQ, hT, hk⟩ := h
  obtain ⟨w, q, G, V, b, hCR, hFW, hG0, hGS, hGH, hCN⟩ := CI_open hC hQ (by omega)
  have hU := QI_up hQ (show z ≤ z + 501 by omega)
  obtain ⟨τ, e1, k1, z1⟩ := ca_feed (a := va) (b := vb) (c := vc) (d := vd) (e := ve) hC
  exact JA_ok e1 k1 z1 hR (fun s hs => by
    obtain ⟨t, e2, k2, z2⟩ := rc_feed (a := va) (b := vb) (c := vc) (d := vd) (e := ve) hs
    exact ⟨t, e2, k2, z2⟩) hU (TB_feed hT) hk
theorem j_truncate (h : J X z σ) (h0 : 0 ≤ z) (hz : z < 700000000) (vn : Int32) : JA X (z + 501) σ (fX9_truncate σ X vn) (fun s => fX10_truncate s (X + 307) vn) := by
  obtain ⟨P, nm, M, H, S, tx, er, ea, ou, hC, hR, hQ, hT, hk⟩ := h
  obtain ⟨w, q, G, V, b, hCR, hFW, hG0, hGS, hGH, hCN⟩ := CI_open hC hQ (by omega)
  have hU := QI_up hQ (show z ≤ z + 501 by omega)
  obtain ⟨n, hn, rfl⟩ := i32_of vn
  obtain ⟨τ, e1, k1, z1⟩ := ca_trunc hC hn
  exact JA_ok e1 k1 z1 hR (fun s hs => by
    obtain ⟨t, e2, k2, z2⟩ := rc_trunc hs hn
    exact ⟨t, e2, k2, z2⟩) hU (TB_trunc hT) hk
theorem j_find (h : J X z σ) (h0 : 0 ≤ z) (hz : z < 700000000) : JA X (z + 501) σ (fX9_find σ X ) (fun s => fX10_find s (X + 307) ) := by
  obtain ⟨P, nm, M, H, S, tx, er, ea, ou, hC, hR, hQ, hT, hk⟩ := h
  obtain ⟨w, q, G, V, b, hCR, hFW, hG0, hGS, hGH, hCN⟩ := CI_open hC hQ (by omega)
  have hU := QI_up hQ (show z ≤ z + 501 by omega)
  obtain ⟨τ, e1, k1, z1⟩ := ca_find hC
  exact JA_ok e1 k1 z1 hR (fun s hs => by
    obtain ⟨t, e2, k2, z2, _⟩ := rc_find hs hT
    exact ⟨t, e2, k2, z2⟩) hU TB_nil hk
theorem j_fail (h : J X z σ) (h0 : 0 ≤ z) (hz : z < 700000000) : JA X (z + 501) σ (fX9_fail σ X ) (fun s => fX10_fail s (X + 307) ) := by
  obtain ⟨P, nm, M, H, S, tx, er, ea, ou, hC, hR, hQ, hT, hk⟩ := h
  obtain ⟨w, q, G, V, b, hCR, hFW, hG0, hGS, hGH, hCN⟩ := CI_open hC hQ (by omega)
  have hU := QI_up hQ (show z ≤ z + 501 by omega)
  obtain ⟨τ, e1, k1, z1⟩ := ca_fail hC hQ (by omega)
  exact JA_ok e1 k1 z1 hR (fun s hs => by
    obtain ⟨t, e2, k2, z2, _⟩ := rc_fail hs
    exact ⟨t, e2, k2, z2⟩) (QI_fail hQ) hT hk
theorem j_wouldTake (h : J X z σ) (h0 : 0 ≤ z) (hz : z < 700000000) (dd : Bool) : JA X (z + 501) σ (fX9_wouldTake σ X (zb dd)) (fun s => fX10_wouldTake s (X + 307) (zb dd)) := by
  obtain ⟨P, nm, M, H, S, tx, er, ea, ou, hC, hR, hQ, hT, hk⟩ := h
  obtain ⟨w, q, G, V, b, hCR, hFW, hG0, hGS, hGH, hCN⟩ := CI_open hC hQ (by omega)
  have hU := QI_up hQ (show z ≤ z + 501 by omega)
  obtain ⟨τ, e1, k1, z1⟩ := ca_take (d := dd) hC hQ (by omega)
  exact JA_ok e1 k1 z1 hR (fun s hs => by
    obtain ⟨t, e2, k2, z2, _⟩ := rc_take (d := dd) hs hQ (by omega)
    exact ⟨t, e2, k2, z2⟩) hU hT hk
theorem j_wouldKeep (h : J X z σ) (h0 : 0 ≤ z) (hz : z < 700000000) : JA X (z + 501) σ (fX9_wouldKeep σ X ) (fun s => fX10_wouldKeep s (X + 307) ) := by
  obtain ⟨P, nm, M, H, S, tx, er, ea, ou, hC, hR, hQ, hT, hk⟩ := h
  obtain ⟨w, q, G, V, b, hCR, hFW, hG0, hGS, hGH, hCN⟩ := CI_open hC hQ (by omega)
  have hU := QI_up hQ (show z ≤ z + 501 by omega)
  obtain ⟨τ, e1, k1, z1⟩ := ca_keep hC hQ (by omega)
  exact JA_ok e1 k1 z1 hR (fun s hs => by
    obtain ⟨t, e2, k2, z2, _⟩ := rc_keep hs hQ (by omega)
    exact ⟨t, e2, k2, z2⟩) hU hT hk
theorem j_quietIn (h : J X z σ) (h0 : 0 ≤ z) (hz : z < 700000000) : JA X (z + 501) σ (fX9_quietIn σ X ) (fun s => fX10_quietIn s (X + 307) ) := by
  obtain ⟨P, nm, M, H, S, tx, er, ea, ou, hC, hR, hQ, hT, hk⟩ := h
  obtain ⟨w, q, G, V, b, hCR, hFW, hG0, hGS, hGH, hCN⟩ := CI_open hC hQ (by omega)
  have hU := QI_up hQ (show z ≤ z + 501 by omega)
  obtain ⟨τ, e1, k1, z1⟩ := ca_quiet hC hQ (by omega)
  exact JA_ok e1 k1 z1 hR (fun s hs => by
    obtain ⟨t, e2, k2, z2, _⟩ := rc_quiet hs hQ (by omega)
    exact ⟨t, e2, k2, z2⟩) hU hT hk
theorem j_saveState (h : J X z σ) (h0 : 0 ≤ z) (hz : z < 700000000) : JA X (z + 501) σ (fX9_saveState σ X ) (fun s => fX10_saveState s (X + 307) ) := by
  obtain ⟨P, nm, M, H, S, tx, er, ea, ou, hC, hR, hQ, hT, hk⟩ := h
  obtain ⟨w, q, G, V, b, hCR, hFW, hG0, hGS, hGH, hCN⟩ := CI_open hC hQ (by omega)
  have hU := QI_up hQ (show z ≤ z + 501 by omega)
  obtain ⟨τ, e1, k1, z1⟩ := ca_save hC hQ (by omega)
  exact JA_ok e1 k1 z1 hR (fun s hs => by
    obtain ⟨t, e2, k2, z2, _⟩ := rc_save hs
    exact ⟨t, e2, k2, z2⟩) (QI_save hU) hT hk
theorem j_parse (h : J X z σ) (h0 : 0 ≤ z) (hz : z < 700000000) : JA X (z + 501) σ (fX9_parse σ X ) (fun s => fX10_parse s (X + 307) ) := by
  obtain ⟨P, nm, M, H, S, tx, er, ea, ou, hC, hR, hQ, hT, hk⟩ := h
  obtain ⟨w, q, G, V, b, hCR, hFW, hG0, hGS, hGH, hCN⟩ := CI_open hC hQ (by omega)
  have hU := QI_up hQ (show z ≤ z + 501 by omega)
  cases hp : ppa tx with
  | inl e =>
    obtain ⟨τ, e1, k1, z1⟩ := ca_parse_bad hC hT hp
    exact JA_ok e1 k1 z1 hR (fun s hs => by
      obtain ⟨t, e2, k2, z2, _⟩ := rc_parse_bad hs hT hp
      exact ⟨t, e2, k2, z2⟩) hU TB_nil hk
  | inr D =>
    obtain ⟨τ, e1, k1, z1⟩ := ca_parse hC hT hp
    obtain ⟨d1, d2, d3, d4⟩ := ppa_ok (by have := hR.2.2.2.2.1.2.1; omega) hp
    exact JA_ok e1 k1 z1 hR (fun s hs => by
      obtain ⟨t, e2, k2, z2, _⟩ := rc_parse hs hT hp
      exact ⟨t, e2, k2, z2⟩) (QI_start d1 d3 (by omega)) TB_nil hk
theorem j_source (h : J X z σ) (h0 : 0 ≤ z) (hz : z < 700000000) (va : Int32) (vc : Int32) : JB X (z + 501) σ (fun k c => k = 1 ∧ c = 1) (fL_source σ X va vc (X + 322)) (tX9_source σ X va vc) (fun s => fX10_source s (X + 307) va vc) := by
  obtain ⟨P, nm, M, H, S, tx, er, ea, ou, hC, hR, hQ, hT, hk⟩ := h
  obtain ⟨w, q, G, V, b, hCR, hFW, hG0, hGS, hGH, hCN⟩ := CI_open hC hQ (by omega)
  have hU := QI_up hQ (show z ≤ z + 501 by omega)
  obtain ⟨a, ha, rfl⟩ := i32_of va
  obtain ⟨c, hc, rfl⟩ := i32_of vc
  obtain ⟨c1, c2⟩ := cq_source hCR hCN ha hc
  have hr : ∀ s, RI s (X + 307) P nm M H S tx er ea ou → fX10_source s (X + 307) (zi a) (zi c) = _ := fun s hs => rq_source hs.1 ha hc
  by_cases e0 : (aSource P M a c).1 = 0
  · exact JB_ok (c1 e0) hC (zfr_refl _ _ _) hR (fun s hs => ⟨_, hr s hs, RI_0 hs, zfr_0, by rw [at_0, e0]⟩) hU hT hk (CI_k hC)
  · have e1 : (aSource P M a c).1 = 1 := by
      revert e0
      unfold aSource
      split <;> simp
    exact JB_no (c2 e0) (hr σ hR) (RI_0 hR) zfr_0 (by rw [at_0, e1]) ⟨rfl, rfl⟩ hC hU hT hk
theorem j_record (h : J X z σ) (h0 : 0 ≤ z) (hz : z < 700000000) (va : Int32) (vi : Int32) (vc : Int32) : JB X (z + 501) σ (fun k c => k = 1 ∧ c = 1) (fL_record σ X va vi vc (X + 322)) (tX9_record σ X va vi vc) (fun s => fX10_record s (X + 307) va vi vc) := by
  obtain ⟨P, nm, M, H, S, tx, er, ea, ou, hC, hR, hQ, hT, hk⟩ := h
  obtain ⟨w, q, G, V, b, hCR, hFW, hG0, hGS, hGH, hCN⟩ := CI_open hC hQ (by omega)
  have hU := QI_up hQ (show z ≤ z + 501 by omega)
  obtain ⟨a, ha, rfl⟩ := i32_of va
  obtain ⟨i, hi, rfl⟩ := i32_of vi
  obtain ⟨c, hc, rfl⟩ := i32_of vc
  obtain ⟨c1, c2⟩ := cq_record hCR ha hi hc
  have hr : ∀ s, RI s (X + 307) P nm M H S tx er ea ou → fX10_record s (X + 307) (zi a) (zi i) (zi c) = _ := fun s hs => rq_record hs.1 ha hi hc
  by_cases e0 : (aRecord P a i c).1 = 0
  · exact JB_ok (c1 e0) hC (zfr_refl _ _ _) hR (fun s hs => ⟨_, hr s hs, RI_0 hs, zfr_0, by rw [at_0, e0]⟩) hU hT hk (CI_k hC)
  · have e1 : (aRecord P a i c).1 = 1 := by
      revert e0
      unfold aRecord
      split <;> simp
    exact JB_no (c2 e0) (hr σ hR) (RI_0 hR) zfr_0 (by rw [at_0, e1]) ⟨rfl, rfl⟩ hC hU hT hk
theorem j_owner (h : J X z σ) (h0 : 0 ≤ z) (hz : z < 700000000) (va : Int32) : JB X (z + 501) σ (fun k c => k = 2 ∧ c = 1) (fL_owner σ X va (X + 322)) (tX9_owner σ X va) (fun s => fX10_owner s (X + 307) va) := by
  obtain ⟨P, nm, M, H, S, tx, er, ea, ou, hC, hR, hQ, hT, hk⟩ := h
  obtain ⟨w, q, G, V, b, hCR, hFW, hG0, hGS, hGH, hCN⟩ := CI_open hC hQ (by omega)
  have hU := QI_up hQ (show z ≤ z + 501 by omega)
  obtain ⟨a, ha, rfl⟩ := i32_of va
  obtain ⟨c1, c2⟩ := cq_owner hCR hCN ha
  have hr : ∀ s, RI s (X + 307) P nm M H S tx er ea ou → fX10_owner s (X + 307) (zi a) = _ := fun s hs => rq_owner hs.1 ha
  by_cases e0 : (aOwner M a).1 = 0
  · exact JB_ok (c1 e0) hC (zfr_refl _ _ _) hR (fun s hs => ⟨_, hr s hs, RI_0 hs, zfr_0, by rw [at_0, e0]⟩) hU hT hk (CI_k hC)
  · have e1 : (aOwner M a).1 = 1 := by
      revert e0
      unfold aOwner
      split <;> simp
    exact JB_no (c2 e0) (hr σ hR) (RI_0 hR) zfr_0 (by rw [at_0, e1]) ⟨rfl, rfl⟩ hC hU hT hk
theorem j_sum (h : J X z σ) (h0 : 0 ≤ z) (hz : z < 700000000) (va : Int32) : JB X (z + 501) σ (fun k c => k = 2 ∧ c = 1) (fL_sum σ X va (X + 322)) (tX9_sum σ X va) (fun s => fX10_sum s (X + 307) va) := by
  obtain ⟨P, nm, M, H, S, tx, er, ea, ou, hC, hR, hQ, hT, hk⟩ := h
  obtain ⟨w, q, G, V, b, hCR, hFW, hG0, hGS, hGH, hCN⟩ := CI_open hC hQ (by omega)
  have hU := QI_up hQ (show z ≤ z + 501 by omega)
  obtain ⟨a, ha, rfl⟩ := i32_of va
  obtain ⟨c1, c2⟩ := cq_sum hCR hCN ha
  have hr : ∀ s, RI s (X + 307) P nm M H S tx er ea ou → fX10_sum s (X + 307) (zi a) = _ := fun s hs => rq_sum hs.1 ha
  by_cases e0 : (aSum M a).1 = 0
  · exact JB_ok (c1 e0) hC (zfr_refl _ _ _) hR (fun s hs => ⟨_, hr s hs, RI_0 hs, zfr_0, by rw [at_0, e0]⟩) hU hT hk (CI_k hC)
  · have e1 : (aSum M a).1 = 1 := by
      revert e0
      unfold aSum
      split <;> simp
    exact JB_no (c2 e0) (hr σ hR) (RI_0 hR) zfr_0 (by rw [at_0, e1]) ⟨rfl, rfl⟩ hC hU hT hk
theorem j_instance (h : J X z σ) (h0 : 0 ≤ z) (hz : z < 700000000) (va : Int32) (vc : Int32) : JB X (z + 501) σ (fun k c => k = 1 ∧ c = 1) (fL_instance σ X va vc (X + 322)) (tX9_instance σ X va vc) (fun s => fX10_instance s (X + 307) va vc) := by
  obtain ⟨P, nm, M, H, S, tx, er, ea, ou, hC, hR, hQ, hT, hk⟩ := h
  obtain ⟨w, q, G, V, b, hCR, hFW, hG0, hGS, hGH, hCN⟩ := CI_open hC hQ (by omega)
  have hU := QI_up hQ (show z ≤ z + 501 by omega)
  obtain ⟨a, ha, rfl⟩ := i32_of va
  obtain ⟨c, hc, rfl⟩ := i32_of vc
  obtain ⟨c1, c2⟩ := cq_inst hCR hCN ha hc
  have hr : ∀ s, RI s (X + 307) P nm M H S tx er ea ou → fX10_instance s (X + 307) (zi a) (zi c) = _ := fun s hs => rq_inst hs.1 ha hc
  by_cases e0 : (aInst P M a c).1 = 0
  · exact JB_ok (c1 e0) hC (zfr_refl _ _ _) hR (fun s hs => ⟨_, hr s hs, RI_0 hs, zfr_0, by rw [at_0, e0]⟩) hU hT hk (CI_k hC)
  · have e1 : (aInst P M a c).1 = 1 := by
      revert e0
      unfold aInst
      split <;> simp
    exact JB_no (c2 e0) (hr σ hR) (RI_0 hR) zfr_0 (by rw [at_0, e1]) ⟨rfl, rfl⟩ hC hU hT hk
theorem j_sink (h : J X z σ) (h0 : 0 ≤ z) (hz : z < 700000000) (va : Int32) (vc : Int32) : JB X (z + 501) σ (fun k c => k = 1 ∧ c = 1) (fL_sink σ X va vc (X + 322)) (tX9_sink σ X va vc) (fun s => fX10_sink s (X + 307) va vc) := by
  obtain ⟨P, nm, M, H, S, tx, er, ea, ou, hC, hR, hQ, hT, hk⟩ := h
  obtain ⟨w, q, G, V, b, hCR, hFW, hG0, hGS, hGH, hCN⟩ := CI_open hC hQ (by omega)
  have hU := QI_up hQ (show z ≤ z + 501 by omega)
  obtain ⟨a, ha, rfl⟩ := i32_of va
  obtain ⟨c, hc, rfl⟩ := i32_of vc
  obtain ⟨c1, c2⟩ := cq_sink hCR hCN ha hc
  have hr : ∀ s, RI s (X + 307) P nm M H S tx er ea ou → fX10_sink s (X + 307) (zi a) (zi c) = _ := fun s hs => rq_sink hs.1 ha hc
  by_cases e0 : (aSink P M a c).1 = 0
  · exact JB_ok (c1 e0) hC (zfr_refl _ _ _) hR (fun s hs => ⟨_, hr s hs, RI_0 hs, zfr_0, by rw [at_0, e0]⟩) hU hT hk (CI_k hC)
  · have e1 : (aSink P M a c).1 = 1 := by
      revert e0
      unfold aSink
      split <;> simp
    exact JB_no (c2 e0) (hr σ hR) (RI_0 hR) zfr_0 (by rw [at_0, e1]) ⟨rfl, rfl⟩ hC hU hT hk
theorem j_inChannel (h : J X z σ) (h0 : 0 ≤ z) (hz : z < 700000000) (va : Int32) (vi : Int32) (dd : Bool) : JB X (z + 501) σ (fun k c => k = 1 ∧ c = 1) (fL_inChannel σ X va vi (zb dd) (X + 322)) (tX9_inChannel σ X va vi (zb dd)) (fun s => fX10_inChannel s (X + 307) va vi (zb dd)) := by
  obtain ⟨P, nm, M, H, S, tx, er, ea, ou, hC, hR, hQ, hT, hk⟩ := h
  obtain ⟨w, q, G, V, b, hCR, hFW, hG0, hGS, hGH, hCN⟩ := CI_open hC hQ (by omega)
  have hU := QI_up hQ (show z ≤ z + 501 by omega)
  obtain ⟨a, ha, rfl⟩ := i32_of va
  obtain ⟨i, hi, rfl⟩ := i32_of vi
  obtain ⟨c1, c2⟩ := cq_in (d := dd) hCR hCN ha hi
  have hr : ∀ s, RI s (X + 307) P nm M H S tx er ea ou → fX10_inChannel s (X + 307) (zi a) (zi i) (zb dd) = _ := fun s hs => rq_in (d := dd) hs.1 ha hi
  by_cases e0 : (aIn P M a i dd).1 = 0
  · exact JB_ok (c1 e0) hC (zfr_refl _ _ _) hR (fun s hs => ⟨_, hr s hs, RI_0 hs, zfr_0, by rw [at_0, e0]⟩) hU hT hk (CI_k hC)
  · have e1 : (aIn P M a i dd).1 = 1 := by
      revert e0
      unfold aIn
      split <;> simp
    exact JB_no (c2 e0) (hr σ hR) (RI_0 hR) zfr_0 (by rw [at_0, e1]) ⟨rfl, rfl⟩ hC hU hT hk
theorem j_outChannel (h : J X z σ) (h0 : 0 ≤ z) (hz : z < 700000000) (vi : Int32) (va : Int32) (dd : Bool) : JB X (z + 501) σ (fun k c => k = 1 ∧ c = 1) (fL_outChannel σ X vi va (zb dd) (X + 322)) (tX9_outChannel σ X vi va (zb dd)) (fun s => fX10_outChannel s (X + 307) vi va (zb dd)) := by
  obtain ⟨P, nm, M, H, S, tx, er, ea, ou, hC, hR, hQ, hT, hk⟩ := h
  obtain ⟨w, q, G, V, b, hCR, hFW, hG0, hGS, hGH, hCN⟩ := CI_open hC hQ (by omega)
  have hU := QI_up hQ (show z ≤ z + 501 by omega)
  obtain ⟨i, hi, rfl⟩ := i32_of vi
  obtain ⟨a, ha, rfl⟩ := i32_of va
  obtain ⟨c1, c2⟩ := cq_out (d := dd) hCR hCN ha hi
  have hr : ∀ s, RI s (X + 307) P nm M H S tx er ea ou → fX10_outChannel s (X + 307) (zi i) (zi a) (zb dd) = _ := fun s hs => rq_out (d := dd) hs.1 ha hi
  by_cases e0 : (aOut P M i a dd).1 = 0
  · exact JB_ok (c1 e0) hC (zfr_refl _ _ _) hR (fun s hs => ⟨_, hr s hs, RI_0 hs, zfr_0, by rw [at_0, e0]⟩) hU hT hk (CI_k hC)
  · have e1 : (aOut P M i a dd).1 = 1 := by
      revert e0
      unfold aOut
      split <;> simp
    exact JB_no (c2 e0) (hr σ hR) (RI_0 hR) zfr_0 (by rw [at_0, e1]) ⟨rfl, rfl⟩ hC hU hT hk
theorem j_progress (h : J X z σ) (h0 : 0 ≤ z) (hz : z < 700000000) (vc : Int32) : JB X (z + 501) σ (fun k c => k = 2 ∧ c = 1) (fL_progress σ X vc (X + 322)) (tX9_progress σ X vc) (fun s => fX10_progress s (X + 307) vc) := by
  obtain ⟨P, nm, M, H, S, tx, er, ea, ou, hC, hR, hQ, hT, hk⟩ := h
  obtain ⟨w, q, G, V, b, hCR, hFW, hG0, hGS, hGH, hCN⟩ := CI_open hC hQ (by omega)
  have hU := QI_up hQ (show z ≤ z + 501 by omega)
  obtain ⟨c, hc, rfl⟩ := i32_of vc
  obtain ⟨c1, c2⟩ := cq_prog hCR hCN hc
  have hr : ∀ s, RI s (X + 307) P nm M H S tx er ea ou → fX10_progress s (X + 307) (zi c) = _ := fun s hs => rq_prog hs.1 hc
  by_cases e0 : (aProg M c).1 = 0
  · exact JB_ok (c1 e0) hC (zfr_refl _ _ _) hR (fun s hs => ⟨_, hr s hs, RI_0 hs, zfr_0, by rw [at_0, e0]⟩) hU hT hk (CI_k hC)
  · have e1 : (aProg M c).1 = 1 := by
      revert e0
      unfold aProg
      split <;> simp
    exact JB_no (c2 e0) (hr σ hR) (RI_0 hR) zfr_0 (by rw [at_0, e1]) ⟨rfl, rfl⟩ hC hU hT hk
theorem j_completed (h : J X z σ) (h0 : 0 ≤ z) (hz : z < 700000000) (vc : Int32) : JB X (z + 501) σ (fun k c => k = 2 ∧ c = 1) (fL_completed σ X vc (X + 322)) (tX9_completed σ X vc) (fun s => fX10_completed s (X + 307) vc) := by
  obtain ⟨P, nm, M, H, S, tx, er, ea, ou, hC, hR, hQ, hT, hk⟩ := h
  obtain ⟨w, q, G, V, b, hCR, hFW, hG0, hGS, hGH, hCN⟩ := CI_open hC hQ (by omega)
  have hU := QI_up hQ (show z ≤ z + 501 by omega)
  obtain ⟨c, hc, rfl⟩ := i32_of vc
  obtain ⟨c1, c2⟩ := cq_comp hCR hCN hc
  have hr : ∀ s, RI s (X + 307) P nm M H S tx er ea ou → fX10_completed s (X + 307) (zi c) = _ := fun s hs => rq_comp hs.1 hc
  by_cases e0 : (aComp M c).1 = 0
  · exact JB_ok (c1 e0) hC (zfr_refl _ _ _) hR (fun s hs => ⟨_, hr s hs, RI_0 hs, zfr_0, by rw [at_0, e0]⟩) hU hT hk (CI_k hC)
  · have e1 : (aComp M c).1 = 1 := by
      revert e0
      unfold aComp
      split <;> simp
    exact JB_no (c2 e0) (hr σ hR) (RI_0 hR) zfr_0 (by rw [at_0, e1]) ⟨rfl, rfl⟩ hC hU hT hk
theorem j_notedPosition (h : J X z σ) (h0 : 0 ≤ z) (hz : z < 700000000) (va : Int32) : JB X (z + 501) σ (fun k c => k = 1 ∧ c = 1) (fL_notedPosition σ X va (X + 322)) (tX9_notedPosition σ X va) (fun s => fX10_notedPosition s (X + 307) va) := by
  obtain ⟨P, nm, M, H, S, tx, er, ea, ou, hC, hR, hQ, hT, hk⟩ := h
  obtain ⟨w, q, G, V, b, hCR, hFW, hG0, hGS, hGH, hCN⟩ := CI_open hC hQ (by omega)
  have hU := QI_up hQ (show z ≤ z + 501 by omega)
  obtain ⟨a, ha, rfl⟩ := i32_of va
  obtain ⟨c1, c2⟩ := cq_npos hCR hCN ha
  have hr : ∀ s, RI s (X + 307) P nm M H S tx er ea ou → fX10_notedPosition s (X + 307) (zi a) = _ := fun s hs => rq_npos hs.1 ha
  by_cases e0 : (aNPos P M a).1 = 0
  · exact JB_ok (c1 e0) hC (zfr_refl _ _ _) hR (fun s hs => ⟨_, hr s hs, RI_0 hs, zfr_0, by rw [at_0, e0]⟩) hU hT hk (CI_k hC)
  · have e1 : (aNPos P M a).1 = 1 := by
      revert e0
      unfold aNPos
      split <;> simp
    exact JB_no (c2 e0) (hr σ hR) (RI_0 hR) zfr_0 (by rw [at_0, e1]) ⟨rfl, rfl⟩ hC hU hT hk
theorem j_notedSum (h : J X z σ) (h0 : 0 ≤ z) (hz : z < 700000000) (va : Int32) : JB X (z + 501) σ (fun k c => k = 2 ∧ c = 1) (fL_notedSum σ X va (X + 322)) (tX9_notedSum σ X va) (fun s => fX10_notedSum s (X + 307) va) := by
  obtain ⟨P, nm, M, H, S, tx, er, ea, ou, hC, hR, hQ, hT, hk⟩ := h
  obtain ⟨w, q, G, V, b, hCR, hFW, hG0, hGS, hGH, hCN⟩ := CI_open hC hQ (by omega)
  have hU := QI_up hQ (show z ≤ z + 501 by omega)
  obtain ⟨a, ha, rfl⟩ := i32_of va
  obtain ⟨c1, c2⟩ := cq_nsum hCR hCN ha
  have hr : ∀ s, RI s (X + 307) P nm M H S tx er ea ou → fX10_notedSum s (X + 307) (zi a) = _ := fun s hs => rq_nsum hs.1 ha
  by_cases e0 : (aNSum M a).1 = 0
  · exact JB_ok (c1 e0) hC (zfr_refl _ _ _) hR (fun s hs => ⟨_, hr s hs, RI_0 hs, zfr_0, by rw [at_0, e0]⟩) hU hT hk (CI_k hC)
  · have e1 : (aNSum M a).1 = 1 := by
      revert e0
      unfold aNSum
      split <;> simp
    exact JB_no (c2 e0) (hr σ hR) (RI_0 hR) zfr_0 (by rw [at_0, e1]) ⟨rfl, rfl⟩ hC hU hT hk
theorem j_shownOf (h : J X z σ) (h0 : 0 ≤ z) (hz : z < 700000000) (va : Int32) : JB X (z + 501) σ (fun k c => k = 2 ∧ c = 1) (fL_shownOf σ X va (X + 322)) (tX9_shownOf σ X va) (fun s => fX10_shownOf s (X + 307) va) := by
  obtain ⟨P, nm, M, H, S, tx, er, ea, ou, hC, hR, hQ, hT, hk⟩ := h
  obtain ⟨w, q, G, V, b, hCR, hFW, hG0, hGS, hGH, hCN⟩ := CI_open hC hQ (by omega)
  have hU := QI_up hQ (show z ≤ z + 501 by omega)
  obtain ⟨a, ha, rfl⟩ := i32_of va
  obtain ⟨c1, c2⟩ := cq_shownOf hCR hCN ha
  have hr : ∀ s, RI s (X + 307) P nm M H S tx er ea ou → fX10_shownOf s (X + 307) (zi a) = _ := fun s hs => rq_shownOf hs.1 ha
  by_cases e0 : (aShownOf P M a).1 = 0
  · exact JB_ok (c1 e0) hC (zfr_refl _ _ _) hR (fun s hs => ⟨_, hr s hs, RI_0 hs, zfr_0, by rw [at_0, e0]⟩) hU hT hk (CI_k hC)
  · have e1 : (aShownOf P M a).1 = 1 := by
      revert e0
      unfold aShownOf
      split <;> simp
    exact JB_no (c2 e0) (hr σ hR) (RI_0 hR) zfr_0 (by rw [at_0, e1]) ⟨rfl, rfl⟩ hC hU hT hk
theorem j_expected (h : J X z σ) (h0 : 0 ≤ z) (hz : z < 700000000) (vk : Int32) (vm : Int32) : JB X (z + 501) σ (fun k c => k = 2 ∧ c = 1) (fL_expected σ X vk vm (X + 322)) (tX9_expected σ X vk vm) (fun s => fX10_expected s (X + 307) vk vm) := by
  obtain ⟨P, nm, M, H, S, tx, er, ea, ou, hC, hR, hQ, hT, hk⟩ := h
  obtain ⟨w, q, G, V, b, hCR, hFW, hG0, hGS, hGH, hCN⟩ := CI_open hC hQ (by omega)
  have hU := QI_up hQ (show z ≤ z + 501 by omega)
  obtain ⟨k, hk1, rfl⟩ := i32_of vk
  obtain ⟨m, hm, rfl⟩ := i32_of vm
  obtain ⟨c1, c2⟩ := cq_exp hCR hk1 hm
  have hr : ∀ s, RI s (X + 307) P nm M H S tx er ea ou → fX10_expected s (X + 307) (zi k) (zi m) = _ := fun s hs => rq_exp hs.1 hk1 hm
  by_cases e0 : (aExp P k m).1 = 0
  · exact JB_ok (c1 e0) hC (zfr_refl _ _ _) hR (fun s hs => ⟨_, hr s hs, RI_0 hs, zfr_0, by rw [at_0, e0]⟩) hU hT hk (CI_k hC)
  · have e1 : (aExp P k m).1 = 1 := by
      revert e0
      unfold aExp
      split <;> simp
    exact JB_no (c2 e0) (hr σ hR) (RI_0 hR) zfr_0 (by rw [at_0, e1]) ⟨rfl, rfl⟩ hC hU hT hk
theorem j_shown (h : J X z σ) (h0 : 0 ≤ z) (hz : z < 700000000) (va : Int32) (vi : Int32) (vc : Int32) : JB X (z + 501) σ (fun k c => (k = 1 ∧ c = 1) ∨ (k = 4 ∧ c = 2)) (fL_shown σ X va vi vc (X + 322)) (tX9_shown σ X va vi vc) (fun s => fX10_shown s (X + 307) va vi vc) := by
  obtain ⟨P, nm, M, H, S, tx, er, ea, ou, hC, hR, hQ, hT, hk⟩ := h
  obtain ⟨w, q, G, V, b, hCR, hFW, hG0, hGS, hGH, hCN⟩ := CI_open hC hQ (by omega)
  have hU := QI_up hQ (show z ≤ z + 501 by omega)
  obtain ⟨a, ha, rfl⟩ := i32_of va
  obtain ⟨i, hi, rfl⟩ := i32_of vi
  obtain ⟨c, hc, rfl⟩ := i32_of vc
  obtain ⟨c1, c2, c3, c4⟩ := cq_shown hCR hCN ha hi hc
  have hr : ∀ s, RI s (X + 307) P nm M H S tx er ea ou → fX10_shown s (X + 307) (zi a) (zi i) (zi c) = _ := fun s hs => rq_shown hs.1 ha hi hc
  rcases c4 with e0 | e0 | e0
  · exact JB_ok (c1 e0) hC (zfr_refl _ _ _) hR (fun s hs => ⟨_, hr s hs, RI_0 hs, zfr_0, by rw [at_0, e0]⟩) hU hT hk (CI_k hC)
  · exact JB_no (c2 e0) (hr σ hR) (RI_0 hR) zfr_0 (by rw [at_0, e0]) (Or.inl ⟨rfl, rfl⟩) hC hU hT hk
  · exact JB_no (c3 e0) (hr σ hR) (RI_0 hR) zfr_0 (by rw [at_0, e0]) (Or.inr ⟨rfl, rfl⟩) hC hU hT hk
theorem j_printSink (h : J X z σ) (h0 : 0 ≤ z) (hz : z < 700000000) (vx : Int32) : JB X (z + 501) σ (fun k c => k = 1 ∧ c = 1) (fL_printSink σ X vx (X + 322)) (tX9_printSink σ X vx) (fun s => fX10_printSink s (X + 307) vx) := by
  obtain ⟨P, nm, M, H, S, tx, er, ea, ou, hC, hR, hQ, hT, hk⟩ := h
  obtain ⟨w, q, G, V, b, hCR, hFW, hG0, hGS, hGH, hCN⟩ := CI_open hC hQ (by omega)
  have hU := QI_up hQ (show z ≤ z + 501 by omega)
  obtain ⟨x, hx, rfl⟩ := i32_of vx
  obtain ⟨c1, c2⟩ := ca_print hC hQ.1.1 (KB_T hQ.1.2 (by omega)) hx
  by_cases e0 : (aPrint P M x ou).1 = 0
  · obtain ⟨τ, e1, k1, z1⟩ := c1 e0
    exact JB_ok e1 k1 z1 hR (fun s hs => by
      obtain ⟨t, e2, k2, z2, z3⟩ := rc_print hs hx
      exact ⟨t, e2, k2, z2, by rw [z3, e0]⟩) hU hT hk (CI_k hC)
  · obtain ⟨e1, e3⟩ := c2 e0
    obtain ⟨t, e2, k2, z2, z3⟩ := rc_print hR hx
    have e4 : (aPrint P M x ou).1 = 1 := by
      revert e0
      unfold aPrint
      split <;> simp
    rw [e1] at k2
    exact JB_no e3 e2 k2 z2 (by rw [z3, e4]) ⟨rfl, rfl⟩ hC hU hT hk
theorem j_run (h : J X z σ) (h0 : 0 ≤ z) (hz : z < 700000000) (vt : Int32) : JB X (z + 501) σ (fun k c => k = 2 ∧ c = 1) (fL_run σ X vt (X + 322)) (tX9_run σ X vt) (fun s => fX10_run s (X + 307) vt) := by
  obtain ⟨P, nm, M, H, S, tx, er, ea, ou, hC, hR, hQ, hT, hk⟩ := h
  obtain ⟨w, q, G, V, b, hCR, hFW, hG0, hGS, hGH, hCN⟩ := CI_open hC hQ (by omega)
  have hU := QI_up hQ (show z ≤ z + 501 by omega)
  obtain ⟨t, ht, rfl⟩ := i32_of vt
  obtain ⟨c1, c2⟩ := ca_run hC hQ (by omega) ht
  by_cases e0 : aTicks t = true
  · obtain ⟨τ, e1, k1, z1⟩ := c1 e0
    exact JB_ok e1 k1 z1 hR (fun s hs => (rc_run hs hQ (by omega) ht).1 e0) (QI_run hQ (by unfold aTicks at e0; have := of_decide_eq_true e0; omega)) hT hk (CI_k hC)
  · exact JB_no (c2 (by cases e9 : aTicks t with | false => rfl | true => exact absurd e9 e0)) ((rc_run hR hQ (by omega) ht).2 (by cases e9 : aTicks t with | false => rfl | true => exact absurd e9 e0)) (RI_0 hR) zfr_0 at_0 ⟨rfl, rfl⟩ hC hU hT hk
theorem j_begin (h : J X z σ) (h0 : 0 ≤ z) (hz : z < 700000000) (dd : Bool) : JB X (z + 501) σ (fun k c => k = 3 ∧ c = 1) (fL_begin σ X (zb dd) (X + 322)) (tX9_begin σ X (zb dd)) (fun s => fX10_begin s (X + 307) (zb dd)) := by
  obtain ⟨P, nm, M, H, S, tx, er, ea, ou, hC, hR, hQ, hT, hk⟩ := h
  obtain ⟨w, q, G, V, b, hCR, hFW, hG0, hGS, hGH, hCN⟩ := CI_open hC hQ (by omega)
  have hU := QI_up hQ (show z ≤ z + 501 by omega)
  obtain ⟨c1, c2⟩ := ca_begin (d := dd) hC hQ (by omega)
  by_cases e0 : M.1 67 ≠ 1
  · obtain ⟨τ, e1, k1, z1⟩ := c1 e0
    exact JB_ok e1 k1 z1 hR (fun s hs => (rc_begin (d := dd) hs hQ).1 e0) (QI_begin hQ (by cases dd <;> simp) e0) hT hk (CI_k hC)
  · exact JB_no (c2 (Classical.not_not.mp e0)) ((rc_begin (d := dd) hR hQ).2 (Classical.not_not.mp e0)) (RI_0 hR) zfr_0 at_0 ⟨rfl, rfl⟩ hC hU hT hk
theorem j_rescale (h : J X z σ) (h0 : 0 ≤ z) (hz : z < 700000000) (vn : Int32) : JB X (z + 501) σ (fun k c => k = 2 ∧ c = 1) (fL_rescale σ X vn (X + 322)) (tX9_rescale σ X vn) (fun s => fX10_rescale s (X + 307) vn) := by
  obtain ⟨P, nm, M, H, S, tx, er, ea, ou, hC, hR, hQ, hT, hk⟩ := h
  obtain ⟨w, q, G, V, b, hCR, hFW, hG0, hGS, hGH, hCN⟩ := CI_open hC hQ (by omega)
  have hU := QI_up hQ (show z ≤ z + 501 by omega)
  obtain ⟨n, hn, rfl⟩ := i32_of vn
  obtain ⟨c1, c2⟩ := ca_resc hC hQ (by omega) hn
  by_cases e0 : 1 ≤ n ∧ n ≤ 4
  · obtain ⟨τ, e1, k1, z1⟩ := c1 e0
    exact JB_ok e1 k1 z1 hR (fun s hs => (rc_resc hs hn).1 e0) (QI_resc hQ (by omega)) hT hk (CI_k hC)
  · exact JB_no (c2 e0) ((rc_resc hR hn).2 e0) (RI_0 hR) zfr_0 at_0 ⟨rfl, rfl⟩ hC hU hT hk
theorem j_setRoom (h : J X z σ) (h0 : 0 ≤ z) (hz : z < 700000000) (vr : Int32) : JB X (z + 501) σ (fun k c => k = 2 ∧ c = 1) (fL_setRoom σ X vr (X + 322)) (tX9_setRoom σ X vr) (fun s => fX10_setRoom s (X + 307) vr) := by
  obtain ⟨P, nm, M, H, S, tx, er, ea, ou, hC, hR, hQ, hT, hk⟩ := h
  obtain ⟨w, q, G, V, b, hCR, hFW, hG0, hGS, hGH, hCN⟩ := CI_open hC hQ (by omega)
  have hU := QI_up hQ (show z ≤ z + 501 by omega)
  obtain ⟨r, hr, rfl⟩ := i32_of vr
  obtain ⟨c1, c2⟩ := ca_room hC hQ (by omega) hr
  by_cases e0 : 1 ≤ r ∧ r ≤ 9
  · obtain ⟨τ, e1, k1, z1⟩ := c1 e0
    exact JB_ok e1 k1 z1 hR (fun s hs => (rc_room hs hr).1 e0) (QI_room hQ e0) hT hk (CI_k hC)
  · exact JB_no (c2 e0) ((rc_room hR hr).2 e0) (RI_0 hR) zfr_0 at_0 ⟨rfl, rfl⟩ hC hU hT hk
theorem j_setEvery (h : J X z σ) (h0 : 0 ≤ z) (hz : z < 700000000) (vr : Int32) (dd : Bool) : JB X (z + 501) σ (fun k c => k = 2 ∧ c = 1) (fL_setEvery σ X vr (zb dd) (X + 322)) (tX9_setEvery σ X vr (zb dd)) (fun s => fX10_setEvery s (X + 307) vr (zb dd)) := by
  obtain ⟨P, nm, M, H, S, tx, er, ea, ou, hC, hR, hQ, hT, hk⟩ := h
  obtain ⟨w, q, G, V, b, hCR, hFW, hG0, hGS, hGH, hCN⟩ := CI_open hC hQ (by omega)
  have hU := QI_up hQ (show z ≤ z + 501 by omega)
  obtain ⟨r, hr, rfl⟩ := i32_of vr
  obtain ⟨c1, c2⟩ := ca_every (d := dd) hC hQ (by omega) hr
  by_cases e0 : 0 ≤ r ∧ r ≤ 99
  · obtain ⟨τ, e1, k1, z1⟩ := c1 e0
    exact JB_ok e1 k1 z1 hR (fun s hs => (rc_every (d := dd) hs hr).1 e0) (QI_every hQ e0) hT hk (CI_k hC)
  · exact JB_no (c2 e0) ((rc_every (d := dd) hR hr).2 e0) (RI_0 hR) zfr_0 at_0 ⟨rfl, rfl⟩ hC hU hT hk
theorem j_setLag (h : J X z σ) (h0 : 0 ≤ z) (hz : z < 700000000) (va : Int32) (vr : Int32) : JB X (z + 501) σ (fun k c => (k = 1 ∧ c = 1) ∨ (k = 2 ∧ c = 2)) (fL_setLag σ X va vr (X + 322)) (tX9_setLag σ X va vr) (fun s => fX10_setLag s (X + 307) va vr) := by
  obtain ⟨P, nm, M, H, S, tx, er, ea, ou, hC, hR, hQ, hT, hk⟩ := h
  obtain ⟨w, q, G, V, b, hCR, hFW, hG0, hGS, hGH, hCN⟩ := CI_open hC hQ (by omega)
  have hU := QI_up hQ (show z ≤ z + 501 by omega)
  obtain ⟨a, ha, rfl⟩ := i32_of va
  obtain ⟨r, hr, rfl⟩ := i32_of vr
  obtain ⟨c1, c2, c3⟩ := ca_lag hC hQ (by omega) ha hr
  by_cases e0 : 0 ≤ a ∧ a < P.1
  · by_cases e1 : 0 ≤ r ∧ r ≤ 9
    · obtain ⟨τ, e2, k1, z1⟩ := c1 ⟨e0, e1⟩
      have hP4 : P.1 ≤ 4 := hCR.2.2.2.1.2.2.2.1
      exact JB_ok e2 k1 z1 hR (fun s hs => (rc_lag hs ha hr).1 ⟨e0, e1⟩) (QI_lag hQ (by omega) e1) hT hk (CI_k hC)
    · exact JB_no (c3 ⟨e0, e1⟩) ((rc_lag hR ha hr).2.2 ⟨e0, e1⟩) (RI_0 hR) zfr_0 at_0 (Or.inr ⟨rfl, rfl⟩) hC hU hT hk
  · exact JB_no (c2 e0) ((rc_lag hR ha hr).2.1 e0) (RI_0 hR) zfr_0 at_0 (Or.inl ⟨rfl, rfl⟩) hC hU hT hk
theorem j_undo (h : J X z σ) (h0 : 0 ≤ z) (hz : z < 700000000) : JB X (z + 501) σ (fun k c => k = 3 ∧ c = 1) (fL_undo σ X  (X + 322)) (tX9_undo σ X ) (fun s => fX10_undo s (X + 307) ) := by
  obtain ⟨P, nm, M, H, S, tx, er, ea, ou, hC, hR, hQ, hT, hk⟩ := h
  obtain ⟨w, q, G, V, b, hCR, hFW, hG0, hGS, hGH, hCN⟩ := CI_open hC hQ (by omega)
  have hU := QI_up hQ (show z ≤ z + 501 by omega)
  cases H with
  | nil => exact JB_no (ca_undo0 hC hQ (by omega)) (r_undo0 hR) (RI_0 hR) zfr_0 at_0 ⟨rfl, rfl⟩ hC hU hT hk
  | cons N H =>
    obtain ⟨τ, e1, k1, z1⟩ := ca_undo hC hQ (by omega)
    exact JB_ok e1 k1 z1 hR (fun s hs => r_undo hs (hQ.2.1 N List.mem_cons_self).1) (QI_undo hU) hT hk (CI_k hC)
theorem j_restoreState (h : J X z σ) (h0 : 0 ≤ z) (hz : z < 700000000) : JB X (z + 501) σ (fun k c => k = 3 ∧ c = 1) (fL_restoreState σ X  (X + 322)) (tX9_restoreState σ X ) (fun s => fX10_restoreState s (X + 307) ) := by
  obtain ⟨P, nm, M, H, S, tx, er, ea, ou, hC, hR, hQ, hT, hk⟩ := h
  obtain ⟨w, q, G, V, b, hCR, hFW, hG0, hGS, hGH, hCN⟩ := CI_open hC hQ (by omega)
  have hU := QI_up hQ (show z ≤ z + 501 by omega)
  cases S with
  | none => exact JB_no (ca_restore0 hC hQ (by omega)) (rc_restore0 hR) (RI_0 hR) zfr_0 at_0 ⟨rfl, rfl⟩ hC hU hT hk
  | some N =>
    obtain ⟨τ, e1, k1, z1⟩ := ca_restore hC hQ (by omega)
    exact JB_ok e1 k1 z1 hR (fun s hs => rc_restore hs (hQ.2.2 N rfl).1) (QI_rest hU) hT hk (CI_k hC)
theorem j_completesIn (h : J X z σ) (h0 : 0 ≤ z) (hz : z < 700000000) (vt : Int32) : JB X (z + 501) σ (fun k c => k = 2 ∧ c = 1) (fL_completesIn σ X vt (X + 322)) (tX9_completesIn σ X vt) (fun s => fX10_completesIn s (X + 307) vt) := by
  obtain ⟨P, nm, M, H, S, tx, er, ea, ou, hC, hR, hQ, hT, hk⟩ := h
  obtain ⟨w, q, G, V, b, hCR, hFW, hG0, hGS, hGH, hCN⟩ := CI_open hC hQ (by omega)
  have hU := QI_up hQ (show z ≤ z + 501 by omega)
  obtain ⟨t, ht, rfl⟩ := i32_of vt
  obtain ⟨c1, c2⟩ := ca_complIn hC hQ (by omega) ht
  by_cases e0 : (aComplIn P M t).1 = 0
  · obtain ⟨τ, e1, k1, z1⟩ := c1 e0
    exact JB_ok e1 k1 z1 hR (fun s hs => by
      obtain ⟨t, e2, k2, z2, z3⟩ := rc_complIn hs hQ (by omega) ht
      exact ⟨t, e2, k2, z2, by rw [z3, e0]⟩) hU hT hk (CI_k hC)
  · have e1 : (aComplIn P M t).1 = 1 := by
      revert e0
      unfold aComplIn
      split <;> simp
    obtain ⟨t, e2, k2, z2, z3⟩ := rc_complIn hR hQ (by omega) ht
    exact JB_no (c2 e0) e2 k2 z2 (by rw [z3, e1]) ⟨rfl, rfl⟩ hC hU hT hk
theorem j_bestInstances (h : J X z σ) (h0 : 0 ≤ z) (hz : z < 700000000) (vt : Int32) : JB X (z + 501) σ (fun k c => k = 2 ∧ c = 1) (fL_bestInstances σ X vt (X + 322)) (tX9_bestInstances σ X vt) (fun s => fX10_bestInstances s (X + 307) vt) := by
  obtain ⟨P, nm, M, H, S, tx, er, ea, ou, hC, hR, hQ, hT, hk⟩ := h
  obtain ⟨w, q, G, V, b, hCR, hFW, hG0, hGS, hGH, hCN⟩ := CI_open hC hQ (by omega)
  have hU := QI_up hQ (show z ≤ z + 501 by omega)
  obtain ⟨t, ht, rfl⟩ := i32_of vt
  obtain ⟨c1, c2⟩ := ca_best hC hQ (by omega) ht
  by_cases e0 : (aBest P M t).1 = 0
  · obtain ⟨τ, e1, k1, z1⟩ := c1 e0
    exact JB_ok e1 k1 z1 hR (fun s hs => by
      obtain ⟨t, e2, k2, z2, z3⟩ := rc_best hs hQ (by omega) ht
      exact ⟨t, e2, k2, z2, by rw [z3, e0]⟩) hU hT hk (CI_k hC)
  · have e1 : (aBest P M t).1 = 1 := by
      revert e0
      unfold aBest
      split <;> simp
    obtain ⟨t, e2, k2, z2, z3⟩ := rc_best hR hQ (by omega) ht
    exact JB_no (c2 e0) e2 k2 z2 (by rw [z3, e1]) ⟨rfl, rfl⟩ hC hU hT hk
theorem j_repeated (h : J X z σ) (h0 : 0 ≤ z) (hz : z < 700000000) : ∃ σ2 v, fX9_repeated σ X = some (σ, v) ∧ fX10_repeated σ (X + 307) = some (σ2, v) ∧ FP.Core.fIsNaN v = false ∧ σ2.1 = σ.1 ∧ J X (z + 501) σ2 := by
  obtain ⟨P, nm, M, H, S, tx, er, ea, ou, hC, hR, hQ, hT, hk⟩ := h
  obtain ⟨w, q, G, V, b, hCR, hFW, hG0, hGS, hGH, hCN⟩ := CI_open hC hQ (by omega)
  have hU := QI_up hQ (show z ≤ z + 501 by omega)
  obtain ⟨v, e1, e2⟩ := aRep_ok P M
  have a1 := cq_rep hCR.1 hCN
  have a2 := rq_rep hR.1
  rw [e1, Option.bind_some] at a1 a2
  exact ⟨_, v, a1, a2, e2, rfl, P, nm, M, H, S, tx, er, ea, ou, CI_far hC zfr_0 (by omega), RI_0 hR, hU, hT, hk⟩
theorem j_skew (h : J X z σ) (h0 : 0 ≤ z) (hz : z < 700000000) : ∃ σ2 v, fX9_skew σ X = some (σ, v) ∧ fX10_skew σ (X + 307) = some (σ2, v) ∧ FP.Core.dIsNaN v = false ∧ σ2.1 = σ.1 ∧ J X (z + 501) σ2 := by
  obtain ⟨P, nm, M, H, S, tx, er, ea, ou, hC, hR, hQ, hT, hk⟩ := h
  obtain ⟨w, q, G, V, b, hCR, hFW, hG0, hGS, hGH, hCN⟩ := CI_open hC hQ (by omega)
  have hU := QI_up hQ (show z ≤ z + 501 by omega)
  have hm : zi (qmany M) ≠ zi 0 := by
    have h4 := qN_many hCN.2.2.1.1.2.1
    intro e
    rw [zi_eq (by omega) (by omega) (by omega) (by omega)] at e
    omega
  obtain ⟨v, e1, e2⟩ := aSkew_ok M hm
  have a1 := cq_skew hCR.1 hCN
  have a2 := rq_skew hR.1
  rw [e1, Option.bind_some] at a1 a2
  exact ⟨_, v, a1, a2, e2, rfl, P, nm, M, H, S, tx, er, ea, ou, CI_far hC zfr_0 (by omega), RI_0 hR, hU, hT, hk⟩
end JJ
