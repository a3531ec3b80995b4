/-! THE REFERENCE'S STATE at m: its rows, its history, its texts. -/
def rp (σ : zS) (a : Nat) (g : Nat → Int32) : zS := (σ.1, (fun x => if x = a then g else σ.2.1 x), σ.2.2)
section RX
variable {σ τ : zS} {m a b : Nat} {g k : Nat → Int32} {A : Nat → Int32} {P : qP} {M N : qM}
theorem rp_at : (rp σ a g).2.1 a = g := if_pos rfl
theorem rp_ne {c : Nat} (h : c ≠ a) : (rp σ a g).2.1 c = σ.2.1 c := if_neg h
theorem rp_upd {i : Nat} {v : Int32} : zuI (rp σ a g) a i v = rp σ a (qu g i v) := by
  unfold zuI rp
  refine Prod.ext rfl (Prod.ext ?_ rfl)
  funext c j
  dsimp only
  unfold zu qu
  by_cases e : c = a
  · subst e
    simp only [true_and, if_true]
  · simp only [e, false_and, if_false]
theorem rp_self : rp σ a (σ.2.1 a) = σ := by
  unfold rp
  refine Prod.ext rfl (Prod.ext ?_ rfl)
  funext c
  dsimp only
  by_cases e : c = a
  · rw [if_pos e, e]
  · rw [if_neg e]
theorem rp_rp : rp (rp σ a g) a k = rp σ a k := by
  unfold rp
  refine Prod.ext rfl (Prod.ext ?_ rfl)
  funext c
  dsimp only
  by_cases e : c = a
  · rw [if_pos e, if_pos e]
  · rw [if_neg e, if_neg e, if_neg e]
theorem zfr_rp : zfr a (a + 1) σ (rp σ a g) := ⟨rfl, fun c hc => ⟨rp_ne (by omega), rfl, rfl⟩⟩
theorem rp_put : rput σ m A = rp σ (m + 4) A := rfl
/-- only the row's first part counts -/
theorem RM_eq {B : Nat → Int32} (h : RM A P M) (he : ∀ k, k < 33894 → B k = A k) : RM B P M := by
  refine ⟨fun k hk => by rw [he k (by omega)]; exact h.1 k hk, fun c hc => ?_⟩
  have hb := rb_in hc
  exact rl_other (h.2 c hc) (fun k h1 h2 => he k (by omega))
/-- a row is copied onto another -/
theorem r_copies (hab : a ≠ b) (ha : σ.1 a = (1, 33894)) (hb : σ.1 b = (1, 33894)) : fX10_copies σ a b = some (rp σ b (fun k => if k < 33894 then σ.2.1 a k else σ.2.1 b k)) := by
  unfold fX10_copies
  obtain ⟨y, hy, hq⟩ := zloop_run (step := sX10_copies_2 a b) (s := (σ, zi 0)) (fuel := zfuel) 33894 (fun i s => s = (rp σ b (fun k => if k < i then σ.2.1 a k else σ.2.1 b k), zi (i : Int))) (fun y => y = rp σ b (fun k => if k < 33894 then σ.2.1 a k else σ.2.1 b k))
    (fun i s hi hs => by
      subst hs
      refine Or.inl ⟨(rp σ b (fun k => if k < i + 1 then σ.2.1 a k else σ.2.1 b k), zi ((i + 1 : Nat) : Int)), ?_, rfl⟩
      unfold sX10_copies_2 sX10_copies_2b
      dsimp only
      rw [if_neg (zi_nle (by omega) (by omega) (by omega)), zaI_of i (show (rp σ b _).1 a = (1, 33894) from ha) rfl hi (by omega), Option.bind_some, rp_ne hab, zsI_of i (show (rp σ b _).1 b = (1, 33894) from hb) rfl hi (by omega), Option.bind_some, rp_upd, zi_add]
      refine congrArg (fun q => some (Sum.inl (rp σ b q, zi ((i : Int) + 1)))) ?_
      funext j
      unfold qu
      dsimp only
      by_cases e : j = i
      · rw [if_pos e, if_pos (by omega), e]
      · rw [if_neg e]
        by_cases e2 : j < i
        · rw [if_pos e2, if_pos (by omega)]
        · rw [if_neg e2, if_neg (by omega)])
    (fun s hs => by
      subst hs
      refine ⟨_, ?_, rfl⟩
      unfold sX10_copies_2 sX10_copies_2b
      dsimp only
      rw [if_pos (by decide)])
    (zfuel_lt (by omega)) (by
      refine Prod.ext ?_ rfl
      show σ = rp σ b _
      rw [show (fun k => if k < 0 then σ.2.1 a k else σ.2.1 b k) = σ.2.1 b from by funext j; exact if_neg (by omega), rp_self])
  rw [hy, Option.bind_some, hq]
theorem rsh_fr (h : rsh σ m) (e1 : τ.1 = σ.1) (e2 : τ.2.2.1 = σ.2.2.1) : rsh τ m := by
  unfold rsh
  rw [e1, e2]
  exact h
/-- names as numbers -/
def qname (l : List Int32) : Int := l.foldl (fun a c => 27 * a + c.toInt - 96) 0
def RNm (σ : zS) (m : Nat) (P : qP) (nm : Nat → List Int32) : Prop := ∀ s, s < P.1 → σ.2.2.2 (m + 3) s = Int64.ofInt (qname (nm s)) ∧ 1 ≤ (nm s).length ∧ (nm s).length ≤ 8 ∧ ∀ c, c ∈ nm s → 97 ≤ c.toInt ∧ c.toInt ≤ 122
/-- what the reference holds now -/
def RN (σ : zS) (m : Nat) (P : qP) (M : qM) : Prop := rsh σ m ∧ rset σ m P ∧ RM (σ.2.1 (m + 4)) P M ∧ qI P M
def RHi (σ : zS) (m : Nat) (P : qP) (H : List qM) : Prop := σ.2.1 m 12 = zi H.length ∧ H.length ≤ 6 ∧ ∀ k, k < H.length → ∃ N, H[k]? = some N ∧ RM (fun j => σ.2.1 (m + 9) (33894 * (H.length - 1 - k) + j)) P N
def RSv (σ : zS) (m : Nat) (P : qP) (S : Option qM) : Prop := σ.2.1 m 13 = zb S.isSome ∧ ∀ N, S = some N → RM (σ.2.1 (m + 8)) P N
def RTx (σ : zS) (m : Nat) (tx : List Int32) : Prop := σ.2.1 m 15 = zi tx.length ∧ tx.length ≤ 300 ∧ ∀ i, i < tx.length → σ.2.1 (m + 10) i = tx.getD i 0
def ROu (σ : zS) (m : Nat) (ou : List Int32) : Prop := σ.2.1 m 31 = zi ou.length ∧ ou.length ≤ 8000 ∧ ∀ i, i < ou.length → σ.2.1 (m + 14) i = ou.getD i 0
def RI (σ : zS) (m : Nat) (P : qP) (nm : Nat → List Int32) (M : qM) (H : List qM) (S : Option qM) (tx : List Int32) (er ea : Int) (ou : List Int32) : Prop :=
  RN σ m P M ∧ RNm σ m P nm ∧ RHi σ m P H ∧ RSv σ m P S ∧ RTx σ m tx ∧ (σ.2.1 m 22 = zi er ∧ σ.2.1 m 23 = zi ea) ∧ ROu σ m ou
/-- cells that a state's words don't speak of -/
theorem RI_fr {nm : Nat → List Int32} {H : List qM} {S : Option qM} {tx ou : List Int32} {er ea : Int} (h : RI σ m P nm M H S tx er ea ou) (e1 : τ.1 = σ.1) (e2 : τ.2.2.1 = σ.2.2.1) (e4 : τ.2.2.2 (m + 3) = σ.2.2.2 (m + 3)) (e0 : ∀ j, (j = 1 ∨ j = 2 ∨ j = 12 ∨ j = 13 ∨ j = 15 ∨ j = 22 ∨ j = 23 ∨ j = 31) → τ.2.1 m j = σ.2.1 m j) (ea2 : ∀ o, (o = 1 ∨ o = 2 ∨ o = 4 ∨ o = 8 ∨ o = 9 ∨ o = 10 ∨ o = 14) → τ.2.1 (m + o) = σ.2.1 (m + o)) : RI τ m P nm M H S tx er ea ou := by
  obtain ⟨⟨a1, a2, a3, a4⟩, b, ⟨c1, c2, c3⟩, ⟨d1, d2⟩, ⟨f1, f2, f3⟩, ⟨g1, g2⟩, ⟨i1, i2, i3⟩⟩ := h
  refine ⟨⟨rsh_fr a1 e1 e2, ?_, by rw [ea2 4 (by omega)]; exact a3, a4⟩, ?_, ⟨by rw [e0 12 (by omega)]; exact c1, c2, fun k hk => by rw [ea2 9 (by omega)]; exact c3 k hk⟩, ⟨by rw [e0 13 (by omega)]; exact d1, fun N hN => by rw [ea2 8 (by omega)]; exact d2 N hN⟩, ⟨by rw [e0 15 (by omega)]; exact f1, f2, fun i hi => by rw [ea2 10 (by omega)]; exact f3 i hi⟩, ⟨by rw [e0 22 (by omega)]; exact g1, by rw [e0 23 (by omega)]; exact g2⟩, ⟨by rw [e0 31 (by omega)]; exact i1, i2, fun i hi => by rw [ea2 14 (by omega)]; exact i3 i hi⟩⟩
  · unfold rset
    rw [e0 1 (by omega), e0 2 (by omega), ea2 1 (by omega), ea2 2 (by omega)]
    exact a2
  · unfold RNm
    rw [e4]
    exact b
theorem RI_tl {nm : Nat → List Int32} {H : List qM} {S : Option qM} {tx ou : List Int32} {er ea : Int} {v : Int32} (h : RI σ m P nm M H S tx er ea ou) : RI (zuI σ m 0 v) m P nm M H S tx er ea ou := by
  refine RI_fr h rfl rfl rfl (fun j hj => ?_) (fun o ho => ?_)
  · rw [zuI_rd, if_neg (by omega)]
  · exact zu_off _ _ _ (by omega)
/-- a row that is no part of the state -/
theorem RI_rp {nm : Nat → List Int32} {H : List qM} {S : Option qM} {tx ou : List Int32} {er ea : Int} {o : Nat} (h : RI σ m P nm M H S tx er ea ou) (ho : o = 5 ∨ o = 6 ∨ o = 7 ∨ 11 ≤ o ∧ o ≤ 13) : RI (rp σ (m + o) g) m P nm M H S tx er ea ou :=
  RI_fr h rfl rfl rfl (fun j hj => by rw [rp_ne (by omega)]) (fun p hp => by rw [rp_ne (by omega)])
theorem RI_now {nm : Nat → List Int32} {H : List qM} {S : Option qM} {tx ou : List Int32} {er ea : Int} (h : RI σ m P nm M H S tx er ea ou) (hA : RM A P N) (hI : qI P N) : RI (rput σ m A) m P nm N H S tx er ea ou := by
  obtain ⟨⟨a1, a2, a3, a4⟩, b, ⟨c1, c2, c3⟩, ⟨d1, d2⟩, ⟨f1, f2, f3⟩, ⟨g1, g2⟩, ⟨i1, i2, i3⟩⟩ := h
  have e0 : (rput σ m A).2.1 m = σ.2.1 m := rput_ne (by omega)
  refine ⟨⟨rsh_fr a1 rfl rfl, ?_, by rw [rput_at]; exact hA, hI⟩, b, ⟨by rw [e0]; exact c1, c2, fun k hk => by rw [rput_ne (by omega)]; exact c3 k hk⟩, ⟨by rw [e0]; exact d1, fun N hN => by rw [rput_ne (by omega)]; exact d2 N hN⟩, ⟨by rw [e0]; exact f1, f2, fun i hi => by rw [rput_ne (by omega)]; exact f3 i hi⟩, ⟨by rw [e0]; exact g1, by rw [e0]; exact g2⟩, ⟨by rw [e0]; exact i1, i2, fun i hi => by rw [rput_ne (by omega)]; exact i3 i hi⟩⟩
  unfold rset
  rw [e0, rput_ne (by omega), rput_ne (by omega)]
  exact a2
theorem r_tl {v : Int32} (h : rsh σ m) : zpI 9 0 σ m v = some (zuI σ m 0 v) := if_pos h.1
theorem zuI_I {a j : Nat} {u v : Int32} : zuI (zuI σ a j u) a j v = zuI σ a j v := by
  unfold zuI
  refine Prod.ext rfl (Prod.ext ?_ rfl)
  funext c i
  dsimp only
  unfold zu
  split <;> rfl
theorem RN_tl {v : Int32} (h : RN σ m P M) : RN (zuI σ m 0 v) m P M := by
  obtain ⟨a1, a2, a3, a4⟩ := h
  refine ⟨rsh_fr a1 rfl rfl, ?_, ?_, a4⟩
  · unfold rset
    rw [zuI_rd, zuI_rd, if_neg (by decide), if_neg (by decide), show (zuI σ m 0 v).2.1 (m + 1) = σ.2.1 (m + 1) from zu_off _ _ _ (by omega), show (zuI σ m 0 v).2.1 (m + 2) = σ.2.1 (m + 2) from zu_off _ _ _ (by omega)]
    exact a2
  · rw [show (zuI σ m 0 v).2.1 (m + 4) = σ.2.1 (m + 4) from zu_off _ _ _ (by omega)]
    exact a3
theorem RN_now (h : RN σ m P M) : zgR 9 6 σ m = some (m + 4) := by
  have := rd_now (A := σ.2.1 (m + 4)) h.1
  rwa [rput_self] at this
theorem RN_recs (h : RN σ m P M) : zgR 9 3 σ m = some (m + 1) := by
  have := rd_recs (A := σ.2.1 (m + 4)) h.1
  rwa [rput_self] at this
theorem RN_seeds (h : RN σ m P M) : zgR 9 4 σ m = some (m + 2) := by
  have := rd_seeds (A := σ.2.1 (m + 4)) h.1
  rwa [rput_self] at this
theorem RN_src (h : RN σ m P M) : zgI 9 1 σ m = some (zi P.1) := by
  have := rd_src (A := σ.2.1 (m + 4)) h.1 h.2.1
  rwa [rput_self] at this
theorem RN_snk (h : RN σ m P M) : zgI 9 2 σ m = some (zi P.2.1) := by
  have := rd_snk (A := σ.2.1 (m + 4)) h.1 h.2.1
  rwa [rput_self] at this
theorem RN_ck {α : Type} {o : Option α} (h : rsh σ m) : zck 9 σ m o = o := if_pos h.1
theorem RN_rec {s : Nat} (h : RN σ m P M) (hs : s < P.1) : zaI σ (m + 1) (zi s) = some (zi (P.2.2.1 s)) := by
  have := rd_rec (A := σ.2.1 (m + 4)) (x := (s : Int)) s h.1 h.2.2.2.1.1 h.2.1 rfl hs
  rwa [rput_self] at this
theorem RN_seed {s : Nat} (h : RN σ m P M) (hs : s < P.1) : zaI σ (m + 2) (zi s) = some (zi (P.2.2.2 s)) := by
  have := rd_seed (A := σ.2.1 (m + 4)) (x := (s : Int)) s h.1 h.2.2.2.1.1 h.2.1 rfl hs
  rwa [rput_self] at this
theorem RN_S {x : Int} (k : Nat) (h : RN σ m P M) (hx : x = k) (hk : k < 144) : zaI σ (m + 4) (zi x) = some (zi (pS M k)) := by
  have := rd_A (A := σ.2.1 (m + 4)) (x := x) k h.1 hx (by omega)
  rw [rput_self] at this
  rw [this, h.2.2.1.1 k hk]
theorem RN_lo {x : Int} (k : Nat) (h : RN σ m P M) (hx : x = k) (hk : k < 37 ∨ 67 ≤ k ∧ k < 74 ∨ 98 ≤ k ∧ k < 144) : zaI σ (m + 4) (zi x) = some (zi (M.1 k)) := by
  rw [RN_S k h hx (by omega), pS_lo (by omega)]
theorem RN_many (h : RN σ m P M) : zaI σ (m + 4) (zi 1) = some (zi (qmany M)) := by
  rw [RN_lo (x := 1) 1 h rfl (by omega), qI_many h.2.2.2]
theorem RN_len {x : Int} (c : Nat) (h : RN σ m P M) (hx : x = rb c) (hc : c < 78) : zaI σ (m + 4) (zi x) = some (zi (pR P M c).length) := by
  have := ra_len (A := σ.2.1 (m + 4)) (x := x) c h.1 h.2.2.1 hx hc
  rwa [rput_self] at this
theorem RN_at {x y : Int} (c k : Nat) (h : RN σ m P M) (hx : x = rb c) (hc : c < 78) (hy : y = k) (hk : k < (pR P M c).length) : fX10_at σ m (zi x) (zi y) = some (σ, zi ((pR P M c).getD k 0)) := by
  have := ra_at (A := σ.2.1 (m + 4)) (x := x) c k h.1 h.2.2.1 hx hc hy hk
  rwa [rput_self] at this
theorem RN_things {x : Int} (c : Nat) (h : RN σ m P M) (hx : x = rb c) (hc : c < 24) : fX10_things σ m (zi x) = some (σ, zi (M.2.1 c).length) := by
  have := ra_things (A := σ.2.1 (m + 4)) (x := x) c h.1 h.2.2.1 hx (by omega) (qI_rok h.2.2.2 (by omega))
  rw [rput_self, pR_things h.2.2.2 hc] at this
  exact this
theorem RN_bars {x : Int} (c : Nat) (h : RN σ m P M) (hx : x = rb c) (hc : c < 24) : fX10_barriers σ m (zi x) = some (σ, zi (if M.2.2 c = -1 then 0 else 1)) := by
  have := ra_barriers (A := σ.2.1 (m + 4)) (x := x) c h.1 h.2.2.1 hx (by omega) (qI_rok h.2.2.2 (by omega))
  rw [rput_self, pR_ch hc, qins_bar (qI_pos h.2.2.2 (by omega) c)] at this
  rw [this]
  split <;> rfl
theorem RN_key {s i : Nat} (h : RN σ m P M) (hs : s < P.1) (hi : i < 200) : fX10_keyOf σ m (zi s) (zi i) = some (σ, zi (qkey P (200 * s + i))) := by
  have := f_keyOf (A := σ.2.1 (m + 4)) h.1 h.2.2.2.1.1 h.2.1 hs hi
  rwa [rput_self] at this
theorem RN_val {s i : Nat} (h : RN σ m P M) (hs : s < P.1) (hi : i < 200) : fX10_valueOf σ m (zi s) (zi i) = some (σ, zi (qval P (200 * s + i))) := by
  have := f_valueOf (A := σ.2.1 (m + 4)) h.1 h.2.2.2.1.1 h.2.1 hs hi
  rwa [rput_self] at this
theorem RN_own {k : Nat} (h : RN σ m P M) (hk : k < 16) : fX10_ownerOf σ m (zi k) = some (σ, zi (qown k (qmany M))) := by
  have := f_ownerOf (A := σ.2.1 (m + 4)) h.1 h.2.2.1 h.2.2.2.1.2.1 hk
  rwa [rput_self] at this
theorem RN_sink {k : Nat} (h : RN σ m P M) (hk : k < 16) : fX10_sinkOf σ m (zi k) = some (σ, zi (qsk P k)) := by
  have := f_sinkOf (A := σ.2.1 (m + 4)) h.1 h.2.2.2.1.1 h.2.1 hk
  rwa [rput_self] at this
-- ranges
theorem lg_lt {x y : Int64} : lg_cmp x y < zi 0 ↔ x < y := by
  unfold lg_cmp
  by_cases h : x > y
  · rw [if_pos h]
    constructor
    · intro q; exact absurd q (by decide)
    · intro q; exact absurd q (by rw [Int64.not_lt]; exact Int64.le_of_lt h)
  · rw [if_neg h]
    by_cases e : x = y
    · rw [if_pos e, e]
      constructor
      · intro q; exact absurd q (by decide)
      · intro q; exact absurd q (fun q => Int64.lt_irrefl q)
    · rw [if_neg e]
      constructor
      · intro _; exact Int64.lt_of_le_of_ne (Int64.not_lt.mp h) e
      · intro _; decide
theorem lg_gt {x y : Int64} : zi 0 < lg_cmp x y ↔ y < x := by
  unfold lg_cmp
  by_cases h : x > y
  · rw [if_pos h]
    exact ⟨fun _ => h, fun _ => by decide⟩
  · rw [if_neg h]
    refine ⟨fun q => ?_, fun q => absurd q h⟩
    split at q
    · exact absurd q (by decide)
    · exact absurd q (by decide)
theorem f_in {x lo hi : Int64} {a l h : Int} (hx : x.toInt = a) (hl : lo.toInt = l) (hh : hi.toInt = h) : fX10_isIn τ x lo hi = some (τ, zb (decide (l ≤ a ∧ a ≤ h))) := by
  unfold fX10_isIn
  by_cases e1 : a < l
  · rw [if_pos (lg_lt.mpr (by rw [Int64.lt_iff_toInt_lt, hx, hl]; exact e1)), zrZ_0, decide_eq_false (by omega)]; rfl
  · rw [if_neg (fun q => e1 (by have := lg_lt.mp q; rw [Int64.lt_iff_toInt_lt, hx, hl] at this; exact this))]
    by_cases e2 : h < a
    · rw [if_pos (lg_gt.mpr (by rw [Int64.lt_iff_toInt_lt, hx, hh]; exact e2)), zrZ_0, decide_eq_false (by omega)]; rfl
    · rw [if_neg (fun q => e2 (by have := lg_gt.mp q; rw [Int64.lt_iff_toInt_lt, hx, hh] at this; exact this)), zrZ_1, decide_eq_true (by omega)]; rfl
theorem l_zi {a : Int} (h : zin a) : (zi a).toInt64.toInt = a := by rw [Int32.toInt_toInt64, zi_toInt h.1 h.2]
theorem r_is {d : Bool} (h : rsh σ m) : fX10_is σ m (zb d) = some (zuI σ m 0 (zi (if d then 0 else 1)), zb d) := by
  unfold fX10_is
  cases d with
  | true => rw [if_neg (show ¬ zb true = zi 0 from by decide), r_tl h, Option.bind_some, zrZ_b]; rfl
  | false => rw [if_pos (show zb false = zi 0 from rfl), r_tl h, Option.bind_some, zrZ_b]; rfl
theorem r_may {d : Bool} {c : Int} (h : rsh σ m) : fX10_may σ m (zb d) (zi c) = some (zuI σ m 0 (zi (if d then 0 else c)), zb d) := by
  unfold fX10_may
  cases d with
  | true => rw [if_neg (show ¬ zb true = zi 0 from by decide), r_tl h, Option.bind_some, zrZ_b]; rfl
  | false => rw [if_pos (show zb false = zi 0 from rfl), r_tl h, Option.bind_some, zrZ_b]; rfl
theorem r_isSource {a : Int} (h : RN σ m P M) (ha : zin a) : fX10_isSource σ m (zi a) = some (σ, zb (decide (0 ≤ a ∧ a < P.1))) := by
  have hP := h.2.2.2.1.1
  unfold fX10_isSource
  rw [RN_src h, Option.bind_some, zi_sub, f_in (l := 0) (h := (P.1 : Int) - 1) (l_zi ha) rfl (l_zi ⟨by have := hP.1; omega, by have := hP.2.1; omega⟩), Option.bind_some, zrZ_b]
  congr 3
  exact decide_eq_decide.mpr (by omega)
theorem r_isSink {a : Int} (h : RN σ m P M) (ha : zin a) : fX10_isSink σ m (zi a) = some (σ, zb (decide (0 ≤ a ∧ a < P.2.1))) := by
  have hP := h.2.2.2.1.1
  unfold fX10_isSink
  rw [RN_snk h, Option.bind_some, zi_sub, f_in (l := 0) (h := (P.2.1 : Int) - 1) (l_zi ha) rfl (l_zi ⟨by have := hP.2.2.1; omega, by have := hP.2.2.2.1; omega⟩), Option.bind_some, zrZ_b]
  congr 3
  exact decide_eq_decide.mpr (by omega)
theorem r_isInst {a : Int} (h : RN σ m P M) (ha : zin a) : fX10_isInstance σ m (zi a) = some (σ, zb (decide (0 ≤ a ∧ a < qmany M))) := by
  have h4 := qN_many h.2.2.2.1.2.1
  unfold fX10_isInstance
  rw [RN_now h, Option.bind_some, RN_many h, Option.bind_some, zi_sub, f_in (l := 0) (h := (qmany M : Int) - 1) (l_zi ha) rfl (l_zi ⟨by omega, by omega⟩), Option.bind_some, zrZ_b]
  congr 3
  exact decide_eq_decide.mpr (by omega)
theorem r_isKey {a : Int} (ha : zin a) : fX10_isKey σ (zi a) = some (σ, zb (decide (0 ≤ a ∧ a < 16))) := by
  unfold fX10_isKey
  rw [f_in (l := 0) (h := 15) (l_zi ha) rfl rfl, Option.bind_some, zrZ_b]
  congr 3
  exact decide_eq_decide.mpr (by omega)
theorem r_isTicks {a : Int} (ha : zin a) : fX10_isTicks σ (zi a) = some (σ, zb (aTicks a)) := by
  unfold fX10_isTicks
  rw [f_in (l := 1) (h := 500) (l_zi ha) rfl rfl, Option.bind_some, zrZ_b]
  rfl
end RX
