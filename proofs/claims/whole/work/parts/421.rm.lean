section RP
variable {σ : zS} {m : Nat} {A : Nat → Int32} {P : qP} {M K : qM} {n : Nat}
/-- what is wanted of the flow whose done lists are dealt out -/
def xOk (P : qP) (n : Nat) (K : qM) : Prop :=
  K.1 1 = n ∧ 1 ≤ n ∧ n ≤ 4 ∧ (∀ c r, c < 24 → r ∈ K.2.1 (54 + c) → r < 800 ∧ (c < 16 → r / 200 = c % 4)) ∧ (∀ c, c < 24 → (K.2.1 (54 + c)).length ≤ rcap (54 + c)) ∧
  (∀ s i, s < 4 → i < 4 → (xOwn P n i (xAll (fun i => K.2.1 (54 + (4 * i + s))) 4 0)).length ≤ 200) ∧ (∀ k i, k < 2 → i < 4 → (xOwn P n i (xAll (fun i => K.2.1 (54 + (4 * (4 + k) + i))) 4 0)).length ≤ 800)
theorem ra_parts26 {s i : Nat} {T U : Nat → List Nat} (h : rsh σ m) (hP : qPok P) (hs : rset σ m P) (hK : xOk P n K) (hs4 : s < P.1) (hi : i < 4) (hT : T s = xAll (fun i => K.2.1 (54 + (4 * i + s))) i 0) (hA : RM A P (xSt P n K T U)) :
    ∃ B, zloop (sX10_parts_26 m (zi s) (zi i) (zi (rb (54 + (4 * i + s))))) zfuel (rput σ m A, zi 0) = some (rput σ m B) ∧ RM B P (xSt P n K (qu T s (xAll (fun i => K.2.1 (54 + (4 * i + s))) (i + 1) 0)) U) := by
  obtain ⟨k1, k2, k3, k4, k5, k6, k7⟩ := hK
  have hP4 := hP.2.1
  generalize hD : (fun i => K.2.1 (54 + (4 * i + s))) = D at hT ⊢
  have hDi : K.2.1 (54 + (4 * i + s)) = D i := by rw [← hD]
  have hlen : (D i).length ≤ 201 := by
    have := k5 (4 * i + s) (by omega)
    rw [hDi, rcap_a (by omega)] at this
    exact this
  have hpl : ∀ T' U', pR P (xSt P n K T' U') (54 + (4 * i + s)) = (D i).map (qen P (4 * i + s)) := by
    intro T' U'
    rw [pR_ls (by omega), xSt_n (by omega), hDi]
    unfold qch
    rw [if_neg (by omega), if_neg (by omega), show 54 + (4 * i + s) - 54 = 4 * i + s from by omega]
  obtain ⟨B, e, hB⟩ := rfor (σ := σ) (m := m) (step := sX10_parts_26 m (zi s) (zi i) (zi (rb (54 + (4 * i + s))))) 0 (D i).length (fun k B => RM B P (xSt P n K (qu T s (xAll D i k)) U)) (fun k B _ hk hB => by
    have hr := k4 (4 * i + s) (D i)[k] (by omega) (by rw [hDi]; exact List.getElem_mem hk)
    generalize hrr : (D i)[k] = r at hr
    have hr8 := hr.1
    have hrs : r / 200 = s := by have := hr.2 (by omega); omega
    have hn2 : 200 * s + r % 200 = r := by omega
    have hk16 := qkey_lt (P := P) hr8
    have ho4 := qown_lt (k := qkey P r) k2
    have hpr := hpl (qu T s (xAll D i k)) U
    have hll : k < (pR P (xSt P n K (qu T s (xAll D i k)) U) (54 + (4 * i + s))).length := by rw [hpr, List.length_map]; exact hk
    have hel : (pR P (xSt P n K (qu T s (xAll D i k)) U) (54 + (4 * i + s))).getD k 0 = ((r % 200 : Nat) : Int) := by
      rw [hpr, List.getD_eq_getElem?_getD, List.getElem?_map, List.getElem?_eq_getElem hk, hrr]
      show qen P (4 * i + s) r = _
      unfold qen
      rw [if_pos (by omega)]
    have hat := ra_at (54 + (4 * i + s)) k h hB rfl (by omega) (y := k) rfl hll
    rw [hel] at hat
    have hlenr := ra_len (54 + (4 * i + s)) h hB rfl (by omega)
    rw [hpr, List.length_map] at hlenr
    have hkey := f_keyOf (A := B) h hP hs hs4 (i := r % 200) (by omega)
    rw [hn2] at hkey
    have how := f_ownerOf2 (k := qkey P r) h hB (by rw [pS_lo (by omega)]; exact k1) ⟨k2, k3⟩ hk16
    obtain ⟨w, hw⟩ := xAll_pre (D := D) hi hk
    have hroom := xOwn_room (P := P) (n := n) hw (by rw [hrr])
    rw [← hD, ] at hroom
    have h200 := k6 s (qown (qkey P r) n) (by omega) (by omega)
    obtain ⟨C, eC, hC⟩ := RM_add (n := r) (d := 30 + (4 * qown (qkey P r) n + s)) h hB (by omega) (fun q => by omega) (by
      rw [pR_ls (by omega), List.length_map, rcap_a (by omega), xSt_i (by omega) (by omega), qu_at, ← hD]
      omega)
    have hqe : qen P (qch (30 + (4 * qown (qkey P r) n + s))) r = ((r % 200 : Nat) : Int) := by
      unfold qch
      rw [if_neg (by omega), if_pos (by omega), show 30 + (4 * qown (qkey P r) n + s) - 30 = 4 * qown (qkey P r) n + s from by omega]
      unfold qen
      rw [if_pos (by omega)]
    rw [hqe] at eC
    refine ⟨C, ?_, RM_ext hC (fun _ _ => rfl) (fun c hc => ?_) (fun _ _ => rfl)⟩
    · unfold sX10_parts_26 sX10_parts_26b
      dsimp only
      rw [rd_now h, Option.bind_some, hlenr, Option.bind_some, if_neg (zi_nle (by omega) (by omega) (by omega)), rd_ck h, hat, Option.bind_some]
      dsimp only
      rw [rd_ck h, hkey, Option.bind_some, rd_ck h, how, Option.bind_some, f_keptIn (by omega) (by omega), Option.bind_some, rd_ck h, hat, Option.bind_some, rd_ck h, eC, Option.bind_some]
    · have := xSt_addi (P := P) (n := n) (K := K) (T := qu T s (xAll D i k)) (U := U) (s := s) (r := r) (by omega) (by omega) c hc
      rw [qu_at, qu_qu] at this
      rw [xAll_step hk, hrr]
      exact this) (fun B hB => by
    have hlenr := ra_len (54 + (4 * i + s)) h hB rfl (by omega)
    rw [hpl, List.length_map] at hlenr
    unfold sX10_parts_26 sX10_parts_26b
    dsimp only
    rw [rd_now h, Option.bind_some, hlenr, Option.bind_some, if_pos (zi_yle (by omega) (by omega) (by omega))]) (by omega) (by omega) (x := 0) rfl (by rw [← hT, qu_same]; exact hA)
  exact ⟨B, e, by rw [xAll_end] at hB; exact hB⟩
theorem ra_parts112 {k i : Nat} {T U : Nat → List Nat} (h : rsh σ m) (hP : qPok P) (hK : xOk P n K) (hk2 : k < 2) (hi : i < 4) (hU : U k = xAll (fun i => K.2.1 (54 + (4 * (4 + k) + i))) i 0) (hA : RM A P (xSt P n K T U)) :
    ∃ B, zloop (sX10_parts_112 m (zi k) (zi i) (zi (rb (54 + (4 * (4 + k) + i))))) zfuel (rput σ m A, zi 0) = some (rput σ m B) ∧ RM B P (xSt P n K T (qu U k (xAll (fun i => K.2.1 (54 + (4 * (4 + k) + i))) (i + 1) 0))) := by
  obtain ⟨k1, k2, k3, k4, k5, k6, k7⟩ := hK
  generalize hD : (fun i => K.2.1 (54 + (4 * (4 + k) + i))) = D at hU ⊢
  have hDi : K.2.1 (54 + (4 * (4 + k) + i)) = D i := by rw [← hD]
  have hlen : (D i).length ≤ 801 := by
    have := k5 (4 * (4 + k) + i) (by omega)
    rw [hDi] at this
    unfold rcap at this
    rw [if_neg (by omega), if_neg (by omega), if_neg (by omega), if_neg (by omega), if_neg (by omega), if_neg (by omega)] at this
    exact this
  have hpl : ∀ T' U', pR P (xSt P n K T' U') (54 + (4 * (4 + k) + i)) = (D i).map (qen P (4 * (4 + k) + i)) := by
    intro T' U'
    rw [pR_ls (by omega), xSt_n (by omega), hDi]
    unfold qch
    rw [if_neg (by omega), if_neg (by omega), show 54 + (4 * (4 + k) + i) - 54 = 4 * (4 + k) + i from by omega]
  obtain ⟨B, e, hB⟩ := rfor (σ := σ) (m := m) (step := sX10_parts_112 m (zi k) (zi i) (zi (rb (54 + (4 * (4 + k) + i))))) 0 (D i).length (fun j B => RM B P (xSt P n K T (qu U k (xAll D i j)))) (fun j B _ hj hB => by
    have hr := k4 (4 * (4 + k) + i) (D i)[j] (by omega) (by rw [hDi]; exact List.getElem_mem hj)
    generalize hrr : (D i)[j] = r at hr
    have hr8 := hr.1
    have hk16 := qkey_lt (P := P) hr8
    have hres := qres_lt (P := P) hr8
    have ho4 := qown_lt (k := qkey P r) k2
    have hpr := hpl T (qu U k (xAll D i j))
    have hll : j < (pR P (xSt P n K T (qu U k (xAll D i j))) (54 + (4 * (4 + k) + i))).length := by rw [hpr, List.length_map]; exact hj
    have hel : (pR P (xSt P n K T (qu U k (xAll D i j))) (54 + (4 * (4 + k) + i))).getD j 0 = ((20000 * qkey P r + qres P r : Nat) : Int) := by
      rw [hpr, List.getD_eq_getElem?_getD, List.getElem?_map, List.getElem?_eq_getElem hj, hrr]
      show qen P (4 * (4 + k) + i) r = _
      unfold qen
      rw [if_neg (by omega)]
    have hat := ra_at (54 + (4 * (4 + k) + i)) j h hB rfl (by omega) (y := j) rfl hll
    rw [hel] at hat
    have hlenr := ra_len (54 + (4 * (4 + k) + i)) h hB rfl (by omega)
    rw [hpr, List.length_map] at hlenr
    have how := f_ownerOf2 (k := qkey P r) h hB (by rw [pS_lo (by omega)]; exact k1) ⟨k2, k3⟩ hk16
    obtain ⟨w, hw⟩ := xAll_pre (D := D) hi hj
    have hroom := xOwn_room (P := P) (n := n) hw (by rw [hrr])
    rw [← hD] at hroom
    have h800 := k7 k (qown (qkey P r) n) (by omega) (by omega)
    obtain ⟨C, eC, hC⟩ := RM_add (n := r) (d := 30 + (4 * (4 + k) + qown (qkey P r) n)) h hB (by omega) (fun q => by omega) (by
      have := rcap_b (c := 30 + (4 * (4 + k) + qown (qkey P r) n)) (by omega)
      rw [pR_ls (by omega), List.length_map, xSt_o (by omega) (by omega), qu_at, ← hD]
      omega)
    have hqe : qen P (qch (30 + (4 * (4 + k) + qown (qkey P r) n))) r = ((20000 * qkey P r + qres P r : Nat) : Int) := by
      unfold qch
      rw [if_neg (by omega), if_pos (by omega), show 30 + (4 * (4 + k) + qown (qkey P r) n) - 30 = 4 * (4 + k) + qown (qkey P r) n from by omega]
      unfold qen
      rw [if_neg (by omega)]
    rw [hqe] at eC
    refine ⟨C, ?_, RM_ext hC (fun _ _ => rfl) (fun c hc => ?_) (fun _ _ => rfl)⟩
    · unfold sX10_parts_112 sX10_parts_112b
      dsimp only
      rw [rd_now h, Option.bind_some, hlenr, Option.bind_some, if_neg (zi_nle (by omega) (by omega) (by omega)), rd_ck h, hat, Option.bind_some]
      dsimp only
      rw [zi_div (by omega) (by omega) (by omega) (by omega), show ((20000 * qkey P r + qres P r : Nat) : Int) / 20000 = (qkey P r : Int) from by omega, rd_ck h, how, Option.bind_some, f_keptOut (by omega) (by omega), Option.bind_some, rd_ck h, hat, Option.bind_some, rd_ck h, eC, Option.bind_some]
    · have := xSt_addo (P := P) (n := n) (K := K) (T := T) (U := qu U k (xAll D i j)) (k := k) (r := r) (by omega) (by omega) c hc
      rw [qu_at, qu_qu] at this
      rw [xAll_step hj, hrr]
      exact this) (fun B hB => by
    have hlenr := ra_len (54 + (4 * (4 + k) + i)) h hB rfl (by omega)
    rw [hpl, List.length_map] at hlenr
    unfold sX10_parts_112 sX10_parts_112b
    dsimp only
    rw [rd_now h, Option.bind_some, hlenr, Option.bind_some, if_pos (zi_yle (by omega) (by omega) (by omega))]) (by omega) (by omega) (x := 0) rfl (by rw [← hU, qu_same]; exact hA)
  exact ⟨B, e, by rw [xAll_end] at hB; exact hB⟩
/-- by source, by sink: all that is dealt out -/
def xT (P : qP) (K : qM) (t : Nat) : Nat → List Nat := fun s => if s < t then xAll (fun i => K.2.1 (54 + (4 * i + s))) 4 0 else []
def xU (P : qP) (K : qM) (t : Nat) : Nat → List Nat := fun k => if k < t then xAll (fun i => K.2.1 (54 + (4 * (4 + k) + i))) 4 0 else []
theorem xT_succ {t : Nat} : qu (xT P K t) t (xAll (fun i => K.2.1 (54 + (4 * i + t))) 4 0) = xT P K (t + 1) := by
  funext s
  by_cases e : s = t
  · subst e; rw [qu_at]; exact (if_pos (by omega)).symm
  · rw [qu_ne e]
    unfold xT
    by_cases e2 : s < t
    · rw [if_pos e2, if_pos (by omega)]
    · rw [if_neg e2, if_neg (by omega)]
theorem xU_succ {t : Nat} : qu (xU P K t) t (xAll (fun i => K.2.1 (54 + (4 * (4 + t) + i))) 4 0) = xU P K (t + 1) := by
  funext s
  by_cases e : s = t
  · subst e; rw [qu_at]; exact (if_pos (by omega)).symm
  · rw [qu_ne e]
    unfold xU
    by_cases e2 : s < t
    · rw [if_pos e2, if_pos (by omega)]
    · rw [if_neg e2, if_neg (by omega)]
theorem ra_partsA {A : Nat → Int32} (h : rsh σ m) (hP : qPok P) (hs : rset σ m P) (hK : xOk P n K) (hA : RM A P (xSt P n K (xT P K 0) (xU P K 0))) :
    ∃ B, zloop (sX10_parts_2 m) zfuel (rput σ m A, zi 0) = some (rput σ m B) ∧ RM B P (xSt P n K (xT P K P.1) (xU P K 0)) := by
  have hP4 := hP.2.1
  refine rfor (σ := σ) (m := m) (step := sX10_parts_2 m) 0 P.1 (fun t B => RM B P (xSt P n K (xT P K t) (xU P K 0))) (fun s B _ hs4 hB => ?_) (fun B _ => by
    unfold sX10_parts_2 sX10_parts_2b
    dsimp only
    rw [rd_src h hs, Option.bind_some, if_pos (zi_yle (by omega) (by omega) (by omega))]) (by omega) (by omega) (x := 0) rfl hA
  obtain ⟨C, eC, hC⟩ := rfor (σ := σ) (m := m) (step := sX10_parts_12 m (zi s)) 0 4 (fun i B => RM B P (xSt P n K (qu (xT P K s) s (xAll (fun i => K.2.1 (54 + (4 * i + s))) i 0)) (xU P K 0))) (fun i B _ hi hB => by
    obtain ⟨C, eC, hC⟩ := ra_parts26 h hP hs hK hs4 hi (T := qu (xT P K s) s (xAll (fun i => K.2.1 (54 + (4 * i + s))) i 0)) (qu_at _ _ _) hB
    refine ⟨C, ?_, by rw [qu_qu] at hC; exact hC⟩
    unfold sX10_parts_12 sX10_parts_12b
    dsimp only
    rw [if_neg (zi_nle (by omega) (by omega) (by omega)), f_doneIn (by omega) hi, Option.bind_some, eC, Option.bind_some]) (fun B _ => by
    unfold sX10_parts_12 sX10_parts_12b
    exact if_pos (zi_yle (by omega) (by omega) (by omega))) (by omega) (by omega) (x := 0) rfl (A := B) (by
      have : qu (xT P K s) s (xAll (fun i => K.2.1 (54 + (4 * i + s))) 0 0) = xT P K s := by
        rw [xAll_0]
        have e : xT P K s s = [] := if_neg (by omega)
        rw [← e, qu_same]
      rw [this]; exact hB)
  refine ⟨C, ?_, by rw [xT_succ] at hC; exact hC⟩
  unfold sX10_parts_2 sX10_parts_2b
  dsimp only
  rw [rd_src h hs, Option.bind_some, if_neg (zi_nle (by omega) (by omega) (by omega)), eC, Option.bind_some]
theorem ra_partsB {A : Nat → Int32} {T : Nat → List Nat} (h : rsh σ m) (hP : qPok P) (hs : rset σ m P) (hK : xOk P n K) (hA : RM A P (xSt P n K T (xU P K 0))) :
    ∃ B, zloop (sX10_parts_88 m) zfuel (rput σ m A, zi 0) = some (rput σ m B) ∧ RM B P (xSt P n K T (xU P K P.2.1)) := by
  have hk2 := hP.2.2.2.1
  refine rfor (σ := σ) (m := m) (step := sX10_parts_88 m) 0 P.2.1 (fun t B => RM B P (xSt P n K T (xU P K t))) (fun s B _ hs4 hB => ?_) (fun B _ => by
    unfold sX10_parts_88 sX10_parts_88b
    dsimp only
    rw [rd_snk h hs, Option.bind_some, if_pos (zi_yle (by omega) (by omega) (by omega))]) (by omega) (by omega) (x := 0) rfl hA
  obtain ⟨C, eC, hC⟩ := rfor (σ := σ) (m := m) (step := sX10_parts_98 m (zi s)) 0 4 (fun i B => RM B P (xSt P n K T (qu (xU P K s) s (xAll (fun i => K.2.1 (54 + (4 * (4 + s) + i))) i 0)))) (fun i B _ hi hB => by
    obtain ⟨C, eC, hC⟩ := ra_parts112 h hP hK (k := s) (by omega) hi (U := qu (xU P K s) s (xAll (fun i => K.2.1 (54 + (4 * (4 + s) + i))) i 0)) (qu_at _ _ _) hB
    refine ⟨C, ?_, by rw [qu_qu] at hC; exact hC⟩
    unfold sX10_parts_98 sX10_parts_98b
    dsimp only
    rw [if_neg (zi_nle (by omega) (by omega) (by omega)), f_doneOut (by omega) hi, Option.bind_some, eC, Option.bind_some]) (fun B _ => by
    unfold sX10_parts_98 sX10_parts_98b
    exact if_pos (zi_yle (by omega) (by omega) (by omega))) (by omega) (by omega) (x := 0) rfl (A := B) (by
      have : qu (xU P K s) s (xAll (fun i => K.2.1 (54 + (4 * (4 + s) + i))) 0 0) = xU P K s := by
        rw [xAll_0]
        have e : xU P K s s = [] := if_neg (by omega)
        rw [← e, qu_same]
      rw [this]; exact hB)
  refine ⟨C, ?_, by rw [xU_succ] at hC; exact hC⟩
  unfold sX10_parts_88 sX10_parts_88b
  dsimp only
  rw [rd_snk h hs, Option.bind_some, if_neg (zi_nle (by omega) (by omega) (by omega)), eC, Option.bind_some]
end RP
