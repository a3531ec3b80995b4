/-! THE TEXT OF A DRAWN SETUP, and that it is parsed: by what stands behind a place. -/
def sx (tx : List Int32) (p : Nat) (l : List Int32) : Prop := tx.drop p = l ∧ p ≤ tx.length
section TX
variable {tx l a b r w : List Int32} {p k i : Nat} {c d : Int32}
theorem sx_at (h : sx tx p l) (i : Nat) : tx.getD (p + i) 0 = l.getD i 0 := by
  rw [← h.1, List.getD_eq_getElem?_getD, List.getD_eq_getElem?_getD, List.getElem?_drop]
theorem sx_len (h : sx tx p l) : tx.length = p + l.length := by
  rw [← h.1, List.length_drop]
  have := h.2
  omega
theorem sx_drop (h : sx tx p (a ++ b)) : sx tx (p + a.length) b := by
  refine ⟨?_, ?_⟩
  · rw [← List.drop_drop, h.1, List.drop_left]
  · rw [sx_len h, List.length_append]
    omega
theorem sx_pk (h : sx tx p l) (i : Nat) : pk tx (p + i) = if i < l.length then pck (l.getD i 0).toInt else 0 := by
  unfold pk pc
  rw [sx_at h, sx_len h]
  by_cases e : i < l.length
  · rw [if_pos e, if_pos (by omega)]
  · rw [if_neg e, if_neg (by omega)]
theorem sx_pbl (h : sx tx p (c :: l)) : pbl tx p = decide (c.toInt = 32 ∨ c.toInt = 10) := by
  unfold pbl pc
  have e := sx_at h 0
  rw [Nat.add_zero] at e
  rw [e, sx_len h]
  congr 1
  simp
theorem sx_F (h : sx tx p (b ++ c :: l)) (hb : b = [] ∨ b = [zi 32]) (hc : ¬ (c.toInt = 32 ∨ c.toInt = 10)) : pF tx p = p + b.length := by
  unfold pF
  rcases hb with rfl | rfl
  · exact pto_stop (by rw [sx_pbl h]; exact decide_eq_false hc)
  · have h2 : sx tx (p + 1) (c :: l) := sx_drop (a := [zi 32]) h
    have hl := sx_len h
    rw [pto_go (f := pbl tx) (by rw [sx_pbl (c := zi 32) (l := c :: l) h]; exact decide_eq_true (Or.inl (by decide))) (by rw [hl]; simp)]
    exact pto_stop (by rw [sx_pbl h2]; exact decide_eq_false hc)
theorem sx_ru (hk : k ≠ 0) : ∀ (w : List Int32) (p : Nat), sx tx p (w ++ r) → (∀ c, c ∈ w → pck c.toInt = k) → (∀ d r2, r = d :: r2 → pck d.toInt ≠ k) → pru tx k p = p + w.length
  | [], p, h, _, hr => by
    unfold pru
    refine pto_stop (decide_eq_false ?_)
    have e := sx_pk h 0
    rw [Nat.add_zero] at e
    rw [e]
    cases r with
    | nil => exact fun q => hk q.symm
    | cons d r2 => exact hr d r2 rfl
  | c :: w, p, h, hw, hr => by
    have ih := sx_ru hk w (p + 1) (sx_drop (a := [c]) h) (fun d hd => hw d (List.mem_cons_of_mem c hd)) hr
    unfold pru at ih ⊢
    have hl := sx_len h
    have e := sx_pk h 0
    rw [Nat.add_zero] at e
    rw [pto_go (f := fun i => decide (pk tx i = k)) (decide_eq_true (by rw [e]; exact hw c List.mem_cons_self)) (by rw [hl]; simp), ih, List.length_cons]
    omega
/-- a word or a number stands there -/
theorem sx_tok (hk : k = 1 ∨ k = 2) (h : sx tx p (b ++ (c :: w ++ r))) (hb : b = [] ∨ b = [zi 32]) (hw : ∀ d, d ∈ c :: w → pck d.toInt = k) (hr : ∀ d r2, r = d :: r2 → pck d.toInt ≠ k) :
    pF tx p = p + b.length ∧ pK tx p = k ∧ pT tx p = p + b.length + (w.length + 1) ∧ ptx tx (pF tx p) (pT tx p) = c :: w ∧ sx tx (pT tx p) r := by
  have hc := hw c List.mem_cons_self
  have hF : pF tx p = p + b.length := sx_F h hb (fun q => by
    rcases q with q | q <;> rw [q] at hc <;> rcases hk with rfl | rfl <;> exact absurd hc (by decide))
  have h2 : sx tx (p + b.length) (c :: w ++ r) := sx_drop h
  have e := sx_pk h2 0
  rw [Nat.add_zero] at e
  have e2 : pk tx (p + b.length) = k := by
    rw [e]
    exact hc
  have hT : pT tx p = p + b.length + (w.length + 1) := by
    unfold pT pE
    rw [hF, e2, if_neg (by omega), if_pos hk, sx_ru (by omega) w (p + b.length + 1) (sx_drop (a := [c]) h2) (fun d hd => hw d (List.mem_cons_of_mem c hd)) hr]
    omega
  refine ⟨hF, by unfold pK; rw [hF, e2], hT, ?_, ?_⟩
  · unfold ptx
    rw [hF, hT, h2.1, show p + b.length + (w.length + 1) - (p + b.length) = (c :: w).length from by rw [List.length_cons]; omega, List.take_left]
  · rw [hT]
    exact sx_drop (a := c :: w) h2
theorem sx_semi (h : sx tx p (zi 59 :: r)) : psm tx p = .inr (p + 1) ∧ sx tx (p + 1) r := by
  have hF : pF tx p = p + 0 := sx_F (b := []) h (Or.inl rfl) (by decide)
  have e := sx_pk h 0
  rw [Nat.add_zero] at e hF
  have e2 : pk tx p = 3 := e
  refine ⟨?_, sx_drop (a := [zi 59]) h⟩
  unfold psm
  rw [if_pos (by unfold pK; rw [hF, e2])]
  unfold pT pE
  rw [hF, e2]
  rfl
/-- the word number j stands there -/
theorem sx_word (h : sx tx p (b ++ (c :: w ++ r))) (hb : b = [] ∨ b = [zi 32]) (hw : ∀ d, d ∈ c :: w → pck d.toInt = 1) (hr : ∀ d r2, r = d :: r2 → pck d.toInt ≠ 1) {o : Option Nat} (ho : (List.range 9).find? (fun i => decide (c :: w = zsByt.getD i [])) = o) :
    pW tx p = o ∧ pK tx p = 1 ∧ pT tx p - pF tx p = w.length + 1 ∧ ptx tx (pF tx p) (pT tx p) = c :: w ∧ sx tx (pT tx p) r := by
  obtain ⟨h1, h2, h3, h4, h5⟩ := sx_tok (Or.inl rfl) h hb hw hr
  refine ⟨?_, h2, by rw [h1, h3]; omega, h4, h5⟩
  unfold pW pwo
  rw [if_pos h2, h4]
  exact ho
/-- the digits of a number below 100 -/
def dgt (v : Nat) : List Int32 := if v < 10 then [zi ((48 + v : Nat) : Int)] else [zi ((48 + v / 10 : Nat) : Int), zi ((48 + v % 10 : Nat) : Int)]
theorem dg_k {v : Nat} (h : v < 10) : pck (zi ((48 + v : Nat) : Int)).toInt = 2 := by
  rw [zi_toInt (by omega) (by omega)]
  unfold pck
  rw [if_neg (by omega), if_pos (by omega)]
theorem sx_num {v u : Nat} (h : sx tx p (zi 32 :: (dgt v ++ r))) (hv : v ≤ 99) (hr : ∀ d r2, r = d :: r2 → pck d.toInt ≠ 2) (hlo : plo u ≤ v) (hup : (v : Int) ≤ pup u) : pnb tx u p = .inr (v, pT tx p) ∧ sx tx (pT tx p) r := by
  by_cases e : v < 10
  · have ed : dgt v = [zi ((48 + v : Nat) : Int)] := if_pos e
    rw [ed] at h
    obtain ⟨h1, h2, h3, h4, h5⟩ := sx_tok (b := [zi 32]) (c := zi ((48 + v : Nat) : Int)) (w := []) (Or.inr rfl) h (Or.inr rfl) (fun d hd => by
      rw [List.mem_singleton.mp hd]
      exact dg_k e) hr
    have hx : pT tx p - pF tx p = 1 := by rw [h1, h3]; simp
    have hn : pnum tx (pF tx p) 1 = v := by
      show 10 * 0 + pc tx (pF tx p + 0) - 48 = (v : Int)
      unfold pc
      rw [h1]
      have := sx_at (sx_drop (a := [zi 32]) h) 0
      rw [this]
      show 10 * 0 + (zi ((48 + v : Nat) : Int)).toInt - 48 = _
      rw [zi_toInt (by omega) (by omega)]
      omega
    refine ⟨?_, h5⟩
    unfold pnb
    rw [hx, hn, if_pos ⟨h2, by omega⟩, if_pos ⟨hlo, hup⟩, Int.toNat_natCast]
  · have ed : dgt v = [zi ((48 + v / 10 : Nat) : Int), zi ((48 + v % 10 : Nat) : Int)] := if_neg e
    rw [ed] at h
    obtain ⟨h1, h2, h3, h4, h5⟩ := sx_tok (b := [zi 32]) (c := zi ((48 + v / 10 : Nat) : Int)) (w := [zi ((48 + v % 10 : Nat) : Int)]) (Or.inr rfl) h (Or.inr rfl) (fun d hd => by
      rcases List.mem_cons.mp hd with q | q
      · rw [q]; exact dg_k (by omega)
      · rw [List.mem_singleton.mp q]; exact dg_k (by omega)) hr
    have hx : pT tx p - pF tx p = 2 := by rw [h1, h3]; simp
    have hn : pnum tx (pF tx p) 2 = v := by
      show 10 * (10 * 0 + pc tx (pF tx p + 0) - 48) + pc tx (pF tx p + 1) - 48 = (v : Int)
      unfold pc
      rw [h1]
      have a0 := sx_at (sx_drop (a := [zi 32]) h) 0
      have a1 := sx_at (sx_drop (a := [zi 32]) h) 1
      rw [a0, a1]
      show 10 * (10 * 0 + (zi ((48 + v / 10 : Nat) : Int)).toInt - 48) + (zi ((48 + v % 10 : Nat) : Int)).toInt - 48 = _
      rw [zi_toInt (by omega) (by omega), zi_toInt (by omega) (by omega)]
      omega
    refine ⟨?_, h5⟩
    unfold pnb
    rw [hx, hn, if_pos ⟨h2, by omega⟩, if_pos ⟨hlo, hup⟩, Int.toNat_natCast]
/-- the law's own texts -/
def zlByt : List (List Int32) := [[115, 111, 117, 114, 99, 101, 32], [32, 114, 101, 99, 111, 114, 100, 115, 32], [32, 115, 101, 101, 100, 32], [32, 108, 97, 103, 32], [105, 110, 115, 116, 97, 110, 99, 101, 115, 32], [59, 115, 105, 110, 107, 115, 32], [59, 114, 111, 111, 109, 32], [59, 101, 118, 101, 114, 121, 32], [111, 118, 101, 114, 116, 97, 107, 101, 59], []]
abbrev zlT (i : Nat) : List Int32 := zlByt.getD i []
/-- a source's statement -/
def stx (k x y z : Nat) : List Int32 := zlT 0 ++ ([zi ((97 + k : Nat) : Int)] ++ (zlT 1 ++ (dgt x ++ (zlT 2 ++ (dgt y ++ (zlT 3 ++ (dgt z ++ [zi 59])))))))
theorem nodig {q : List Int32} (h : pck c.toInt ≠ 2) : ∀ d r2, c :: q = d :: r2 → pck d.toInt ≠ 2 := fun d r2 e => by
  cases e
  exact h
theorem nolet {q : List Int32} (h : pck c.toInt ≠ 1) : ∀ d r2, c :: q = d :: r2 → pck d.toInt ≠ 1 := fun d r2 e => by
  cases e
  exact h
theorem sx_src {D : pD} {k x y z : Nat} (h : sx tx p (stx k x y z ++ r)) (hk : k < 3) (hx : x ≤ 40) (hy : y ≤ 99) (hz : z ≤ 5) (hD : D.1 = k) (hN : ∀ s, s < k → D.2.2.2.2.1 s = [zi ((97 + s : Nat) : Int)]) :
    ∃ D2 q, pst tx D p = .inr (D2, q) ∧ sx tx q r ∧ pK tx p ≠ 0 ∧ D2.1 = k + 1 ∧ (∀ s, s < k + 1 → D2.2.2.2.2.1 s = [zi ((97 + s : Nat) : Int)]) ∧ D2.2.2.2.2.2 = D.2.2.2.2.2 := by
  have h0 : sx tx p ([] ++ ((115 : Int32) :: [111, 117, 114, 99, 101] ++ (zi 32 :: ([zi ((97 + k : Nat) : Int)] ++ (zlT 1 ++ (dgt x ++ (zlT 2 ++ (dgt y ++ (zlT 3 ++ (dgt z ++ (zi 59 :: r)))))))))))
    := by
    unfold stx at h
    simp only [List.append_assoc] at h
    exact h
  obtain ⟨a1, a2, -, -, a5⟩ := sx_word (o := some 0) h0 (Or.inl rfl) (by decide) (nolet (by decide)) (by decide)
  have h1 : sx tx (pT tx p) ([zi 32] ++ (zi ((97 + k : Nat) : Int) :: [] ++ (zlT 1 ++ (dgt x ++ (zlT 2 ++ (dgt y ++ (zlT 3 ++ (dgt z ++ (zi 59 :: r))))))))) := a5
  have hl : ∀ d, d ∈ [zi ((97 + k : Nat) : Int)] → pck d.toInt = 1 := fun d hd => by
    rw [List.mem_singleton.mp hd, zi_toInt (by omega) (by omega)]
    unfold pck
    rw [if_pos (by omega)]
  have hnone : (List.range 9).find? (fun i => decide ([zi ((97 + k : Nat) : Int)] = zsByt.getD i [])) = none := by
    rcases (show k = 0 ∨ k = 1 ∨ k = 2 by omega) with rfl | rfl | rfl <;> decide
  obtain ⟨b1, b2, b3, b4, b5⟩ := sx_word (o := none) h1 (Or.inr rfl) hl (nolet (by decide)) hnone
  have ena : pna tx D (pT tx p) = .inr (pT tx (pT tx p)) := by
    unfold pna
    rw [if_pos ⟨b2, by rw [b3]; decide, b1⟩, b4, if_neg (by
      rintro ⟨s, hs, e⟩
      rw [hD] at hs
      rw [hN s hs] at e
      have e2 := (List.cons.inj e).1
      rw [zi_eq (by omega) (by omega) (by omega) (by omega)] at e2
      omega)]
  have h2 : sx tx (pT tx (pT tx p)) ([zi 32] ++ ((114 : Int32) :: [101, 99, 111, 114, 100, 115] ++ (zi 32 :: (dgt x ++ (zlT 2 ++ (dgt y ++ (zlT 3 ++ (dgt z ++ (zi 59 :: r))))))))) := b5
  obtain ⟨c1, -, -, -, c5⟩ := sx_word (o := some 1) h2 (Or.inr rfl) (by decide) (nolet (by decide)) (by decide)
  have ewd1 : pwd tx 1 (pT tx (pT tx p)) = .inr (pT tx (pT tx (pT tx p))) := if_pos c1
  generalize pT tx (pT tx (pT tx p)) = p3 at c5 ewd1
  have hx99 : x ≤ 99 := by omega
  obtain ⟨d1, d5⟩ := sx_num (u := 1) c5 hx99 (nodig (by decide)) (show (0 : Int) ≤ x by omega) (show (x : Int) ≤ 200 by omega)
  have h3 : sx tx (pT tx p3) ([zi 32] ++ ((115 : Int32) :: [101, 101, 100] ++ (zi 32 :: (dgt y ++ (zlT 3 ++ (dgt z ++ (zi 59 :: r))))))) := d5
  obtain ⟨f1, -, -, -, f5⟩ := sx_word (o := some 2) h3 (Or.inr rfl) (by decide) (nolet (by decide)) (by decide)
  have ewd2 : pwd tx 2 (pT tx p3) = .inr (pT tx (pT tx p3)) := if_pos f1
  generalize pT tx (pT tx p3) = p4 at f5 ewd2
  obtain ⟨g1, g5⟩ := sx_num (u := 2) f5 hy (nodig (by decide)) (show (0 : Int) ≤ y by omega) (show (y : Int) ≤ 999 by omega)
  have h4 : sx tx (pT tx p4) ([zi 32] ++ ((108 : Int32) :: [97, 103] ++ (zi 32 :: (dgt z ++ (zi 59 :: r))))) := g5
  obtain ⟨i1, -, -, -, i5⟩ := sx_word (o := some 3) h4 (Or.inr rfl) (by decide) (nolet (by decide)) (by decide)
  have hz99 : z ≤ 99 := by omega
  obtain ⟨j1, j5⟩ := sx_num (u := 3) i5 hz99 (nodig (by decide)) (show (0 : Int) ≤ z by omega) (show (z : Int) ≤ 9 by omega)
  have ela : pla tx (pT tx p4) = .inr (z, pT tx (pT tx (pT tx p4))) := by
    unfold pla
    rw [if_pos i1]
    exact j1
  obtain ⟨k1, k5⟩ := sx_semi j5
  refine ⟨pput D x y z [zi ((97 + k : Nat) : Int)], _, ?_, k5, by rw [a2]; decide, ?_, fun s hs => ?_, rfl⟩
  · unfold pst
    rw [a1]
    dsimp only
    rw [if_pos rfl]
    unfold psr
    rw [if_neg (by omega), ena]
    unfold pb
    dsimp only
    rw [ewd1]
    dsimp only
    rw [d1]
    dsimp only
    rw [ewd2]
    dsimp only
    rw [g1]
    dsimp only
    rw [ela]
    dsimp only
    rw [k1, b4]
  · show D.1 + 1 = k + 1
    rw [hD]
  · show qu D.2.2.2.2.1 D.1 [zi ((97 + k : Nat) : Int)] s = _
    rw [hD]
    by_cases e : s = k
    · rw [e, qu_at]
    · rw [qu_ne e]
      exact hN s (by omega)
/-- a setting's statement -/
theorem sx_set {D : pD} {u v : Nat} (h : sx tx p (c :: w ++ (zi 32 :: (dgt v ++ (zi 59 :: r))))) (hu : 4 ≤ u ∧ u < 8) (hcw : c :: w = zsByt.getD u []) (hw : ∀ d, d ∈ c :: w → pck d.toInt = 1) (hv : v ≤ 99) (hlo : plo u ≤ v) (hup : (v : Int) ≤ pup u) (hD : D.2.2.2.2.2 (u - 4) = none) :
    ∃ D2 q, pst tx D p = .inr (D2, q) ∧ sx tx q r ∧ pK tx p ≠ 0 ∧ D2.1 = D.1 ∧ ∀ j, j ≠ u - 4 → D2.2.2.2.2.2 j = D.2.2.2.2.2 j := by
  have ho : (List.range 9).find? (fun i => decide (c :: w = zsByt.getD i [])) = some u := by
    rw [hcw]
    rcases (show u = 4 ∨ u = 5 ∨ u = 6 ∨ u = 7 by omega) with rfl | rfl | rfl | rfl <;> decide
  obtain ⟨a1, a2, -, -, a5⟩ := sx_word (b := []) (o := some u) h (Or.inl rfl) hw (nolet (by decide)) ho
  obtain ⟨d1, d5⟩ := sx_num (u := u) a5 hv (nodig (by decide)) hlo hup
  obtain ⟨k1, k5⟩ := sx_semi d5
  refine ⟨(D.1, D.2.1, D.2.2.1, D.2.2.2.1, D.2.2.2.2.1, qu D.2.2.2.2.2 (u - 4) (some v)), _, ?_, k5, by rw [a2]; decide, rfl, fun j hj => qu_ne hj⟩
  unfold pst
  rw [a1]
  dsimp only
  rw [if_neg (by omega), if_pos hu.1]
  unfold pse
  rw [if_pos hD, if_neg (by omega), d1]
  unfold pb
  dsimp only
  rw [k1]
theorem sx_over {D : pD} (h : sx tx p (zlT 8 ++ r)) (hD : D.2.2.2.2.2 4 = none) : ∃ D2 q, pst tx D p = .inr (D2, q) ∧ sx tx q r ∧ pK tx p ≠ 0 ∧ D2.1 = D.1 := by
  have h0 : sx tx p ([] ++ ((111 : Int32) :: [118, 101, 114, 116, 97, 107, 101] ++ (zi 59 :: r))) := h
  obtain ⟨a1, a2, -, -, a5⟩ := sx_word (o := some 8) h0 (Or.inl rfl) (by decide) (nolet (by decide)) (by decide)
  obtain ⟨k1, k5⟩ := sx_semi a5
  refine ⟨(D.1, D.2.1, D.2.2.1, D.2.2.2.1, D.2.2.2.2.1, qu D.2.2.2.2.2 4 (some 1)), _, ?_, k5, by rw [a2]; decide, rfl⟩
  unfold pst
  rw [a1]
  dsimp only
  rw [if_neg (by decide), if_pos (by decide)]
  unfold pse
  rw [if_pos hD, if_pos rfl]
  unfold pb
  dsimp only
  rw [k1]
theorem sx_end (h : sx tx p []) : pK tx p = 0 := by
  have e := sx_len h
  have hF : pF tx p = p := by
    unfold pF
    rw [e]
    show pto (pbl tx) (p + 0 - p) p = p
    rw [show p + 0 - p = 0 from by omega]
    rfl
  unfold pK
  rw [hF, ppk_0, e]
  exact Nat.le_refl _
theorem plp_go {n : Nat} {D D2 : pD} {q : Nat} (h : pst tx D p = .inr (D2, q)) (hK : pK tx p ≠ 0) : plp tx (n + 1) D p = plp tx n D2 q := by
  show (if pK tx p = 0 then _ else pb (pst tx D p) fun a => plp tx n a.1 a.2) = _
  rw [if_neg hK, h]
  rfl
theorem plp_end {n : Nat} {D : pD} (h : sx tx p []) : plp tx (n + 1) D p = .inr (D, p) := if_pos (sx_end h)
/-- the whole text -/
def stail (m si ro ev : Nat) (o : List Int32) : List Int32 := zlT 4 ++ (dgt m ++ (zlT 5 ++ (dgt si ++ (zlT 6 ++ (dgt ro ++ (zlT 7 ++ (dgt ev ++ (zi 59 :: o))))))))
def ssrc (ra rb rc : Nat → Nat) (n : Nat) : List Int32 := (List.range n).flatMap (fun k => stx k (ra k) (rb k) (rc k))
theorem ssrc_succ (ra rb rc : Nat → Nat) (n : Nat) : ssrc ra rb rc (n + 1) = ssrc ra rb rc n ++ stx n (ra n) (rb n) (rc n) := by
  unfold ssrc
  rw [List.range_succ, List.flatMap_append]
  simp
theorem ptail_ok {D : pD} {m si ro ev f : Nat} {o : List Int32} (h : sx tx p (stail m si ro ev o)) (hm : 1 ≤ m ∧ m ≤ 4) (hs : 1 ≤ si ∧ si ≤ 2) (hr : 1 ≤ ro ∧ ro ≤ 4) (he : ev ≤ 12) (ho : o = zlT 8 ∨ o = zlT 9) (hD : ∀ j, D.2.2.2.2.2 j = none) (hf : 6 ≤ f) : ∃ D2 q, plp tx f D p = .inr (D2, q) ∧ D2.1 = D.1 := by
  obtain ⟨f, rfl⟩ : ∃ g, f = g + 6 := ⟨f - 6, by omega⟩
  have h1 : sx tx p ((105 : Int32) :: [110, 115, 116, 97, 110, 99, 101, 115] ++ (zi 32 :: (dgt m ++ (zi 59 :: ((115 : Int32) :: [105, 110, 107, 115] ++ (zi 32 :: (dgt si ++ (zi 59 :: ((114 : Int32) :: [111, 111, 109] ++ (zi 32 :: (dgt ro ++ (zi 59 :: ((101 : Int32) :: [118, 101, 114, 121] ++ (zi 32 :: (dgt ev ++ (zi 59 :: o)))))))))))))))) := h
  obtain ⟨D1, q1, e1, s1, k1, n1, f1⟩ := sx_set (D := D) (u := 4) h1 (by omega) rfl (by decide) (by omega) (show (1 : Int) ≤ m by omega) (show (m : Int) ≤ 4 by omega) (hD _)
  obtain ⟨D2, q2, e2, s2, k2, n2, f2⟩ := sx_set (D := D1) (u := 5) s1 (by omega) rfl (by decide) (by omega) (show (1 : Int) ≤ si by omega) (show (si : Int) ≤ 2 by omega) (by rw [f1 _ (by decide)]; exact hD _)
  obtain ⟨D3, q3, e3, s3, k3, n3, f3⟩ := sx_set (D := D2) (u := 6) s2 (by omega) rfl (by decide) (by omega) (show (1 : Int) ≤ ro by omega) (show (ro : Int) ≤ 9 by omega) (by rw [f2 _ (by decide), f1 _ (by decide)]; exact hD _)
  obtain ⟨D4, q4, e4, s4, k4, n4, f4⟩ := sx_set (D := D3) (u := 7) s3 (by omega) rfl (by decide) (by omega) (show (0 : Int) ≤ ev by omega) (show (ev : Int) ≤ 99 by omega) (by rw [f3 _ (by decide), f2 _ (by decide), f1 _ (by decide)]; exact hD _)
  rw [plp_go e1 k1, plp_go e2 k2, plp_go e3 k3, plp_go e4 k4]
  rcases ho with rfl | rfl
  · have s5 : sx tx q4 (zlT 8 ++ []) := s4
    obtain ⟨D5, q5, e5, s6, k5, n5⟩ := sx_over (D := D4) s5 (by rw [f4 _ (by decide), f3 _ (by decide), f2 _ (by decide), f1 _ (by decide)]; exact hD _)
    rw [plp_go e5 k5, plp_end s6]
    exact ⟨D5, q5, rfl, by rw [n5, n4, n3, n2, n1]⟩
  · rw [plp_end s4]
    exact ⟨D4, q4, rfl, by rw [n4, n3, n2, n1]⟩
theorem psrc_ok {ra rb rc : Nat → Nat} {n : Nat} {o : List Int32} (hn : n ≤ 3) (hb : ∀ k, k < n → ra k ≤ 40 ∧ rb k ≤ 99 ∧ rc k ≤ 5) : ∀ (j i f : Nat) (D : pD) (p : Nat), i + j = n → sx tx p (((List.range' i j).flatMap (fun k => stx k (ra k) (rb k) (rc k))) ++ o) → D.1 = i → (∀ s, s < i → D.2.2.2.2.1 s = [zi ((97 + s : Nat) : Int)]) → (∀ t, D.2.2.2.2.2 t = none) → ∃ D2 q, plp tx (f + j) D p = plp tx f D2 q ∧ sx tx q o ∧ D2.1 = n ∧ ∀ t, D2.2.2.2.2.2 t = none
  | 0, i, f, D, p, hij, h, h1, h2, h3 => ⟨D, p, rfl, h, by omega, h3⟩
  | j + 1, i, f, D, p, hij, h, h1, h2, h3 => by
    rw [List.range'_succ, List.flatMap_cons, List.append_assoc] at h
    have hbi := hb i (by omega)
    obtain ⟨D2, q, e, s, kk, g1, g2, g3⟩ := sx_src h (by omega) hbi.1 hbi.2.1 hbi.2.2 h1 h2
    obtain ⟨D3, q3, e3, s3, g4, g5⟩ := psrc_ok hn hb j (i + 1) f D2 q (by omega) s g1 g2 (fun t => by rw [g3]; exact h3 t)
    refine ⟨D3, q3, ?_, s3, g4, g5⟩
    rw [← e3, show f + (j + 1) = (f + j) + 1 from by omega]
    exact plp_go e kk
/-- a drawn setup is parsed -/
theorem pset_ok {ra rb rc : Nat → Nat} {n m si ro ev : Nat} {o : List Int32} (hn : 1 ≤ n ∧ n ≤ 3) (hb : ∀ k, k < n → ra k ≤ 40 ∧ rb k ≤ 99 ∧ rc k ≤ 5) (hm : 1 ≤ m ∧ m ≤ 4) (hs : 1 ≤ si ∧ si ≤ 2) (hr : 1 ≤ ro ∧ ro ≤ 4) (he : ev ≤ 12) (ho : o = zlT 8 ∨ o = zlT 9) : ∃ D, ppa (ssrc ra rb rc n ++ stail m si ro ev o) = .inr D ∧ D.1 = n := by
  obtain ⟨D1, q1, e1, s1, n1, f1⟩ := psrc_ok (tx := ssrc ra rb rc n ++ stail m si ro ev o) (ra := ra) (rb := rb) (rc := rc) (o := stail m si ro ev o) hn.2 hb n 0 (300 - n) pD0 0 (by omega) (by
    rw [← List.range_eq_range']
    exact ⟨rfl, Nat.zero_le _⟩) rfl (fun s hs => absurd hs (by omega)) (fun t => rfl)
  obtain ⟨D2, q2, e2, n2⟩ := ptail_ok (f := 300 - n) s1 hm hs hr he ho f1 (by omega)
  rw [show 300 - n + n = 300 from by omega, e2] at e1
  refine ⟨D2, ?_, by rw [n2, n1]⟩
  unfold ppa
  rw [e1]
  unfold pb
  dsimp only
  rw [if_neg (by omega)]
end TX
