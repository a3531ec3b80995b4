/-! THE CLASS'S STATE at X, and its past. -/
def CI (σ : zS) (X : Nat) (P : qP) (nm : Nat → List Int32) (M : qM) (H : List qM) (S : Option qM) (tx : List Int32) (er ea : Int) (ou : List Int32) : Prop :=
  ∃ w q G, CR σ X w P nm S.isSome H.length q tx er ea ou ∧ FW σ X (X + w) G ∧ G 0 = some M ∧ (∀ N, S = some N → G 2 = some N) ∧ ∀ k, k < H.length → G (3 + (q + 6 - k) % 6) = H[k]?
/-- what holds of all flows of a state -/
def QI (z : Int) (P : qP) (M : qM) (H : List qM) (S : Option qM) : Prop := (qI P M ∧ KB z M) ∧ (∀ N, N ∈ H → qI P N ∧ KB z N) ∧ ∀ N, S = some N → qI P N ∧ KB z N
section CA
variable {σ : zS} {X w b sz q : Nat} {P : qP} {M N : qM} {H : List qM} {S : Option qM} {nm : Nat → List Int32} {sv : Bool} {tx ou : List Int32} {er ea z : Int} {V : Nat → Nat → Int32} {G : Nat → Option qM}
theorem CN_of (hR : CR σ X w P nm sv sz q tx er ea ou) (hF : FW σ X (X + w) G) (h0 : G 0 = some M) (hI : qI P M) (hB : KB z M) (hz : z < 900000000) : ∃ V b, CN σ X w V b P M := by
  obtain ⟨V, b, v, h1, h2, h3⟩ := hF 0 (by omega)
  obtain ⟨rfl, hC⟩ := h3 M h0
  exact ⟨V, b, h1, hC, hI, KB_T hB (by omega), CR_KS hR hF (by omega)⟩
/-- a flow is copied to another's place -/
theorem FW_copy {i j : Nat} (hF : FW σ X (X + w) G) (hi : i < 9) (hj : j < 9) (hij : i ≠ j) (hG : G j = some M) (hI : qI P M) (hT : KT M) : ∃ W b2, fX1_copyFrom σ (fpl X i) (fpl X j) = some (fput σ (fpl X i) W b2 (X + w)) ∧ RC W b2 M ∧ fx b2 := by
  obtain ⟨V0, b0, v0, h1, h2, -⟩ := hF i hi
  obtain ⟨V, b, v, g1, g2, g3⟩ := hF j hj
  obtain ⟨rfl, hC⟩ := g3 M hG
  obtain ⟨W, e, hW⟩ := k_copy (V := V0) (b := b0) (u := v0) h1.1 g1 (fpl_apart hij) h2 hC hI hT
  rw [fput_self h1] at e
  exact ⟨W, b0, e, hW, h2⟩
theorem zfr_slot {i b u : Nat} {V : Nat → Nat → Int32} (hi : i < 9) : zfr X (X + 307) σ (fput σ (fpl X i) V b u) := by
  have := fpl_in (X := X) hi
  exact zfr_wide zfr_put (by omega) (by omega)
/-- the state with another flow now -/
theorem CI_now {W : Nat → Nat → Int32} {b2 : Nat} (hR : CR σ X w P nm S.isSome H.length q tx er ea ou) (hF : FW σ X (X + w) G) (hS : ∀ N, S = some N → G 2 = some N) (hH : ∀ k, k < H.length → G (3 + (q + 6 - k) % 6) = H[k]?) (hW : RC W b2 N) : CI (fput σ (fpl X 0) W b2 (X + w)) X P nm N H S tx er ea ou :=
  ⟨w, q, qu G 0 (some N), CR_put hR (by omega), FW_put hF (by omega) hW.1 (fun K hK => by cases hK; exact ⟨rfl, hW⟩), qu_at _ _ _, fun K hK => by rw [qu_ne (by omega)]; exact hS K hK, fun k hk => by rw [qu_ne (by omega)]; exact hH k hk⟩
theorem CI_try {W : Nat → Nat → Int32} {b2 v : Nat} (hR : CR σ X w P nm S.isSome H.length q tx er ea ou) (hF : FW σ X (X + w) G) (h0 : G 0 = some M) (hS : ∀ N, S = some N → G 2 = some N) (hH : ∀ k, k < H.length → G (3 + (q + 6 - k) % 6) = H[k]?) (hb : fx b2) : CI (fput σ (fpl X 1) W b2 v) X P nm M H S tx er ea ou :=
  ⟨w, q, qu G 1 none, CR_put hR (by omega), FW_put hF (by omega) hb (fun K hK => by cases hK), by rw [qu_ne (by omega)]; exact h0, fun K hK => by rw [qu_ne (by omega)]; exact hS K hK, fun k hk => by rw [qu_ne (by omega)]; exact hH k hk⟩
theorem cx_6i {τ : zS} {j : Nat} {v : Int32} (h : (τ.1 (X + 119)).1 = 11) : zpI 6 j τ (X + 119) v = some (zuI τ (X + 119) j v) := if_pos h
theorem cx_6g {τ : zS} {j : Nat} (h : (τ.1 (X + 119)).1 = 11) : zgI 6 j τ (X + 119) = some (τ.2.1 (X + 119) j) := if_pos h
theorem zuI_rd {τ : zS} {a j i : Nat} {v : Int32} : (zuI τ a j v).2.1 a i = if i = j then v else τ.2.1 a i := by
  show zu τ.2.1 a j v a i = _
  unfold zu
  by_cases e : i = j
  · rw [if_pos ⟨rfl, e⟩, if_pos e]
  · rw [if_neg (fun q => e q.2), if_neg e]
theorem CR_past {n m : Nat} (h : CR σ X w P nm sv sz q tx er ea ou) (hn : n ≤ 6) (hm : m < 6) : CR (zuI (zuI σ (X + 119) 1 (zi m)) (X + 119) 0 (zi n)) X w P nm sv n m tx er ea ou := by
  have e : zfr (X + 119) (X + 120) σ (zuI (zuI σ (X + 119) 1 (zi m)) (X + 119) 0 (zi n)) := zfr_trans zfr_I zfr_I
  have e1 : zeq σ (zuI (zuI σ (X + 119) 1 (zi m)) (X + 119) 0 (zi n)) X (X + 26) := zfr_eq e (by omega)
  obtain ⟨a1, a2, a3, ⟨b1, b2, b3⟩, ⟨c1, c2⟩, a6, a7, a8, a9, a10⟩ := h
  have eo : ∀ o, o < 26 → (zuI (zuI σ (X + 119) 1 (zi m)) (X + 119) 0 (zi n)).2.1 (X + o) = σ.2.1 (X + o) := fun o ho => (e1 (X + o) (by omega) (by omega)).2.1
  refine ⟨a1, a2, a3, ⟨SU_eq b1 (zeq_sub e1 (by omega) (by omega)), SN_eq b2 (zeq_sub e1 (by omega) (by omega)), b3⟩, ⟨c1, c2⟩, by rw [(e1 X (by omega) (by omega)).2.1]; exact a6, ⟨?_, ?_, hn, hm⟩, ?_, by rw [eo 3 (by omega)]; exact a9, ?_⟩
  · rw [zuI_rd, if_pos rfl]
  · rw [zuI_rd, if_neg (by omega), zuI_rd, if_pos rfl]
  · rw [eo 1 (by omega), eo 2 (by omega)]; exact a8
  · rw [eo 4 (by omega), eo 5 (by omega)]; exact a10
/-- what is now is remembered -/
theorem c_rem (hR : CR σ X w P nm S.isSome H.length q tx er ea ou) (hF : FW σ X (X + w) G) (h0 : G 0 = some M) (hS : ∀ N, S = some N → G 2 = some N) (hH : ∀ k, k < H.length → G (3 + (q + 6 - k) % 6) = H[k]?) (hI : qI P M) (hT : KT M) :
    ∃ τ q2 G2, fX6_remember σ (X + 119) (fpl X 0) = some τ ∧ CR τ X w P nm S.isSome ((M :: H).take 6).length q2 tx er ea ou ∧ FW τ X (X + w) G2 ∧ G2 0 = some M ∧ (∀ N, S = some N → G2 2 = some N) ∧ (∀ k, k < ((M :: H).take 6).length → G2 (3 + (q2 + 6 - k) % 6) = ((M :: H).take 6)[k]?) ∧ zfr X (X + 307) σ τ := by
  obtain ⟨hsz, hq0, hs6, hq6⟩ := hR.2.2.2.2.2.2.1
  have hk := hR.1.2.2.1.1
  have hlen : ((M :: H).take 6).length = if H.length + 1 < 6 then H.length + 1 else 6 := by
    rw [List.length_take, List.length_cons]
    split <;> omega
  -- the place that comes next
  have key : ∀ m : Nat, m < 6 → m = (q + 1) % 6 → ∃ τ, jX6_remember_22 σ (X + 119) (fpl X 0) (zi m) (X + 119) = some τ ∧ CR τ X w P nm S.isSome ((M :: H).take 6).length m tx er ea ou ∧ FW τ X (X + w) (qu G (3 + m) (some M)) ∧ zfr X (X + 307) σ τ := by
    intro m hm hmq
    have hn : (if H.length + 1 < 6 then H.length + 1 else 6) ≤ 6 := by split <;> omega
    have hR2 := CR_past (n := ((M :: H).take 6).length) (m := m) hR (by rw [hlen]; exact hn) hm
    generalize hτ : zuI (zuI σ (X + 119) 1 (zi m)) (X + 119) 0 (zi ((M :: H).take 6).length) = τ at hR2
    have hfr : zfr (X + 119) (X + 120) σ τ := by rw [← hτ]; exact zfr_trans zfr_I zfr_I
    have hF2 : FW τ X (X + w) G := FW_eq hF (fun i hi => by have := fpl_in (X := X) hi; exact zfr_eq hfr (by omega))
    obtain ⟨W, b2, e, hW, hb⟩ := FW_copy (i := 3 + m) (j := 0) hF2 (by omega) (by omega) (by omega) h0 hI hT
    refine ⟨fput τ (fpl X (3 + m)) W b2 (X + w), ?_, CR_put hR2 (by omega), FW_put hF2 (by omega) hb (fun K hK => by cases hK; exact ⟨rfl, hW⟩), zfr_trans (zfr_wide hfr (by omega) (by omega)) (zfr_slot (by omega))⟩
    unfold jX6_remember_22
    rw [cx_6i hk, Option.bind_some, cx_6g (τ := zuI σ (X + 119) 1 (zi m)) hk, Option.bind_some, zuI_rd, if_neg (show ¬ (0 : Nat) = 1 from by decide), hsz, zi_add]
    have emin : (if zi 6 < zi ((H.length : Int) + 1) then zi 6 else zi ((H.length : Int) + 1)) = zi ((M :: H).take 6).length := by
      rw [hlen]
      by_cases e6 : H.length + 1 < 6
      · rw [if_neg (by rw [zi_lt (by omega) (by omega) (by omega) (by omega)]; omega), if_pos e6]; rfl
      · by_cases e7 : (6 : Int) < (H.length : Int) + 1
        · rw [if_pos (by rw [zi_lt (by omega) (by omega) (by omega) (by omega)]; exact e7), if_neg e6]; rfl
        · rw [if_neg (by rw [zi_lt (by omega) (by omega) (by omega) (by omega)]; exact e7), if_neg e6, show (H.length : Int) + 1 = 6 from by omega]; rfl
    rw [emin, cx_6i (τ := zuI σ (X + 119) 1 (zi m)) hk, Option.bind_some, hτ]
    have hk2 : (τ.1 (X + 119)).1 = 11 := hR2.1.2.2.1.1
    have r2 : zgR 6 2 τ (X + 119) = some (X + 120) := by
      unfold zgR
      rw [if_pos (show (τ.1 (X + 119)).1 = 6 + 5 from hk2)]
      exact hR2.1.2.2.1.2.1
    have ra : zaR τ (X + 120) (zi m) = some (some (fpl X (3 + m))) := by
      unfold zaR
      rw [hR2.1.2.2.1.2.2.1, if_pos rfl, zi_nat (by omega) (by omega), Int.toNat_natCast, if_neg (by
        intro q
        rcases q with q | q
        · rw [show (0 : Int32) = zi 0 from rfl, zi_lt (by omega) (by omega) (by omega) (by omega)] at q; omega
        · dsimp only at q; omega), hR2.1.2.2.1.2.2.2 m hm]
      unfold fpl
      rw [if_neg (by omega), show X + 28 + 31 * (3 + m) = X + 121 + 31 * m from by omega]
    rw [r2, Option.bind_some, cx_6g hk2, Option.bind_some, hR2.2.2.2.2.2.2.1.2.1, ra, Option.bind_some]
    dsimp only
    have hck : (τ.1 (fpl X (3 + m))).1 = 6 := by
      obtain ⟨V0, b0, v0, g1, -⟩ := hF2 (3 + m) (by omega)
      exact g1.1.1
    rw [show zck 1 τ (fpl X (3 + m)) (fX1_copyFrom τ (fpl X (3 + m)) (fpl X 0)) = fX1_copyFrom τ (fpl X (3 + m)) (fpl X 0) from if_pos hck, e, Option.bind_some]
  have fin : ∀ m : Nat, m < 6 → m = (q + 1) % 6 → ∀ k, k < ((M :: H).take 6).length → qu G (3 + m) (some M) (3 + (m + 6 - k) % 6) = ((M :: H).take 6)[k]? := fun m hm hmq k hk2 => by
    rw [hlen] at hk2
    have hk6 : k < 6 := by split at hk2 <;> omega
    rw [List.getElem?_take_of_lt hk6]
    cases k with
    | zero =>
      rw [show (m + 6 - 0) % 6 = m from by omega, qu_at]
      rfl
    | succ k =>
      rw [List.getElem?_cons_succ, qu_ne (by omega), show (m + 6 - (k + 1)) % 6 = (q + 6 - k) % 6 from by omega]
      exact hH k (by split at hk2 <;> omega)
  unfold fX6_remember
  rw [cx_6g hk, Option.bind_some, hq0, zi_add]
  by_cases e : q + 1 < 6
  · rw [if_neg (zi_nle (by omega) (by omega) (by omega)), Option.bind_some, zi_add]
    obtain ⟨τ, e1, k1, k2, k3⟩ := key (q + 1) e (by omega)
    exact ⟨τ, q + 1, _, e1, k1, k2, by rw [qu_ne (by omega)]; exact h0, fun N hN => by rw [qu_ne (by omega)]; exact hS N hN, fin (q + 1) e (by omega), k3⟩
  · rw [if_pos (zi_yle (by omega) (by omega) (by omega))]
    obtain ⟨τ, e1, k1, k2, k3⟩ := key 0 (by omega) (by omega)
    exact ⟨τ, 0, _, e1, k1, k2, by rw [qu_ne (by omega)]; exact h0, fun N hN => by rw [qu_ne (by omega)]; exact hS N hN, fin 0 (by omega) (by omega), k3⟩
theorem cx_6 {α : Type} {o : Option α} (h : csh σ X) : zck 6 σ (X + 119) o = o := if_pos h.2.2.1.1
/-- the latest change is undone -/
theorem c_give (hR : CR σ X w P nm S.isSome (N :: H).length q tx er ea ou) (hF : FW σ X (X + w) G) (hS : ∀ N, S = some N → G 2 = some N) (hH : ∀ k, k < (N :: H).length → G (3 + (q + 6 - k) % 6) = (N :: H)[k]?) (hI : qI P N) (hT : KT N) :
    ∃ τ, fX6_giveBack σ (X + 119) (fpl X 0) = some τ ∧ CI τ X P nm N H S tx er ea ou ∧ zfr X (X + 307) σ τ := by
  obtain ⟨hsz, hq0, hs6, hq6⟩ := hR.2.2.2.2.2.2.1
  have hk := hR.1.2.2.1.1
  have hl : (N :: H).length = H.length + 1 := List.length_cons
  have r2 : zgR 6 2 σ (X + 119) = some (X + 120) := by
    unfold zgR
    rw [if_pos (show (σ.1 (X + 119)).1 = 6 + 5 from hk)]
    exact hR.1.2.2.1.2.1
  have ra : zaR σ (X + 120) (zi q) = some (some (fpl X (3 + q))) := by
    unfold zaR
    rw [hR.1.2.2.1.2.2.1, if_pos rfl, zi_nat (by omega) (by omega), Int.toNat_natCast, if_neg (by
      intro p
      rcases p with p | p
      · rw [show (0 : Int32) = zi 0 from rfl, zi_lt (by omega) (by omega) (by omega) (by omega)] at p; omega
      · dsimp only at p; omega), hR.1.2.2.1.2.2.2 q hq6]
    unfold fpl
    rw [if_neg (by omega), show X + 28 + 31 * (3 + q) = X + 121 + 31 * q from by omega]
  have hG : G (3 + q) = some N := by
    have := hH 0 (by omega)
    rw [show (q + 6 - 0) % 6 = q from by omega] at this
    exact this
  obtain ⟨W, b2, e, hW, hb⟩ := FW_copy (i := 0) (j := 3 + q) hF (by omega) (by omega) (by omega) hG hI hT
  have hR1 := CR_put (V := W) (b := b2) (v := X + w) (i := 0) hR (by omega)
  have hF1 := FW_put (V := W) (b := b2) (v := X + w) (i := 0) (o := some N) hF (by omega) hb (fun K hK => by cases hK; exact ⟨rfl, hW⟩)
  have hfr : zfr X (X + 307) σ (fput σ (fpl X 0) W b2 (X + w)) := zfr_slot (by omega)
  have hck : zck 1 σ (fpl X 0) (fX1_copyFrom σ (fpl X 0) (fpl X (3 + q))) = fX1_copyFrom σ (fpl X 0) (fpl X (3 + q)) := by
    obtain ⟨V0, b0, v0, g1, -⟩ := hF 0 (by omega)
    exact if_pos g1.1.1
  unfold fX6_giveBack
  rw [r2, Option.bind_some, cx_6g hk, Option.bind_some, hq0, ra, Option.bind_some]
  dsimp only
  rw [cx_6g hk, Option.bind_some, hsz, if_neg (by rw [zi_eq (by omega) (by omega) (by omega) (by omega)]; omega), hck, e, Option.bind_some]
  generalize fput σ (fpl X 0) W b2 (X + w) = τ at hR1 hF1 hfr
  have hk1 := hR1.1.2.2.1.1
  have hsz1 := hR1.2.2.2.2.2.2.1.1
  have fin : ∀ m : Nat, m < 6 → (m + 1) % 6 = q → ∃ υ, jX6_giveBack_45 τ (X + 119) (zi m) (X + 119) = some υ ∧ CI υ X P nm N H S tx er ea ou ∧ zfr X (X + 307) σ υ := fun m hm hmq => by
    have hR2 := CR_past (n := H.length) (m := m) hR1 (by omega) hm
    have hf2 : zfr (X + 119) (X + 120) τ (zuI (zuI τ (X + 119) 1 (zi m)) (X + 119) 0 (zi H.length)) := zfr_trans zfr_I zfr_I
    refine ⟨_, ?_, ⟨w, m, qu G 0 (some N), hR2, FW_eq hF1 (fun i hi => by have := fpl_in (X := X) hi; exact zfr_eq hf2 (by omega)), qu_at _ _ _, fun K hK => by rw [qu_ne (by omega)]; exact hS K hK, fun k hk2 => ?_⟩, zfr_trans hfr (zfr_wide hf2 (by omega) (by omega))⟩
    · unfold jX6_giveBack_45
      rw [cx_6i hk1, Option.bind_some, cx_6g (τ := zuI τ (X + 119) 1 (zi m)) hk1, Option.bind_some, zuI_rd, if_neg (by omega), hsz1, zi_sub, cx_6i (τ := zuI τ (X + 119) 1 (zi m)) hk1, Option.bind_some, hl, show ((H.length + 1 : Nat) : Int) - 1 = (H.length : Int) from by omega]
    · rw [qu_ne (by omega)]
      have := hH (k + 1) (by omega)
      rw [List.getElem?_cons_succ, show (q + 6 - (k + 1)) % 6 = (m + 6 - k) % 6 from by omega] at this
      exact this
  rw [cx_6g hk1, Option.bind_some, hR1.2.2.2.2.2.2.1.2.1]
  by_cases e0 : q = 0
  · rw [if_pos (by rw [e0]; decide)]
    exact fin 5 (by omega) (by omega)
  · rw [if_neg (zi_nle (by omega) (by omega) (by omega)), Option.bind_some, zi_sub, show (q : Int) - 1 = ((q - 1 : Nat) : Int) from by omega]
    exact fin (q - 1) (by omega) (by omega)
end CA
