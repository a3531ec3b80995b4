/-! The reference's texts. -/
section RT
variable {σ τ : zS} {m : Nat} {P : qP} {M : qM} {H : List qM} {S : Option qM} {nm : Nat → List Int32} {tx ou t o : List Int32} {er ea e2 a2 : Int}
theorem RI_io (h : RI σ m P nm M H S tx er ea ou) (e1 : τ.1 = σ.1) (e3 : τ.2.2.1 = σ.2.2.1) (e4 : τ.2.2.2 (m + 3) = σ.2.2.2 (m + 3)) (e0 : ∀ j, (j = 1 ∨ j = 2 ∨ j = 12 ∨ j = 13) → τ.2.1 m j = σ.2.1 m j) (e5 : ∀ o, (o = 1 ∨ o = 2 ∨ o = 4 ∨ o = 8 ∨ o = 9) → τ.2.1 (m + o) = σ.2.1 (m + o)) (ht : RTx τ m t) (hr : τ.2.1 m 22 = zi e2 ∧ τ.2.1 m 23 = zi a2) (ho : ROu τ m o) : RI τ m P nm M H S t e2 a2 o := by
  obtain ⟨⟨a1, a2, a3, a4⟩, b, ⟨c1, c2, c3⟩, ⟨d1, d2⟩, -⟩ := h
  refine ⟨⟨rsh_fr a1 e1 e3, ?_, by rw [e5 4 (by omega)]; exact a3, a4⟩, ?_, ⟨by rw [e0 12 (by omega)]; exact c1, c2, fun k hk => by rw [e5 9 (by omega)]; exact c3 k hk⟩, ⟨by rw [e0 13 (by omega)]; exact d1, fun N hN => by rw [e5 8 (by omega)]; exact d2 N hN⟩, ht, hr, ho⟩
  · unfold rset
    rw [e0 1 (by omega), e0 2 (by omega), e5 1 (by omega), e5 2 (by omega)]
    exact a2
  · unfold RNm
    rw [e4]
    exact b
theorem rg_i {j : Nat} (h : rsh σ m) : zgI 9 j σ m = some (σ.2.1 m j) := if_pos h.1
theorem rp_i {j : Nat} {v : Int32} (h : rsh σ m) : zpI 9 j σ m v = some (zuI σ m j v) := if_pos h.1
theorem rsh_uI {a j : Nat} {v : Int32} (h : rsh σ m) : rsh (zuI σ a j v) m := rsh_fr h rfl rfl
theorem rg_buf (h : rsh σ m) : zgR 9 14 σ m = some (m + 10) := by
  rw [show zgR 9 14 σ m = σ.2.2.1 m 14 from if_pos h.1]
  exact h.2.1.2.2.2.2.2.2.2.2.2.1
theorem rg_out (h : rsh σ m) : zgR 9 30 σ m = some (m + 14) := by
  rw [show zgR 9 30 σ m = σ.2.2.1 m 30 from if_pos h.1]
  exact h.2.1.2.2.2.2.2.2.2.2.2.2.2.2.2
theorem rk_buf (h : rsh σ m) : σ.1 (m + 10) = (2, 300) := h.2.2.2.2.2.2.2.2.2.2.2.1
theorem rk_out (h : rsh σ m) : σ.1 (m + 14) = (2, 9000) := h.2.2.2.2.2.2.2.2.2.2.2.2.2.2.2
/-- what bytes told do to the reference's text -/
def RTA (σ τ : zS) (m : Nat) (t : List Int32) : Prop := τ.1 = σ.1 ∧ τ.2.2 = σ.2.2 ∧ (∀ a, a ≠ m → a ≠ m + 10 → τ.2.1 a = σ.2.1 a) ∧ (∀ j, j ≠ 15 → j ≠ 0 → τ.2.1 m j = σ.2.1 m j) ∧ τ.2.1 m 0 = zi 0 ∧ RTx τ m t
theorem rt_byte {k : Nat} {y : Int32} {x1 x2 x3 x4 x5 : Int32} (hs : rsh σ m) (h : RTA σ τ m t) (hl : t.length < 300) (hk : k < 20) {g : Nat} (hg : ((((zi 24)) - (((zi 8)) * (zi k - zi k / ((zi 4)) * ((zi 4))))) &&& 31 : Int32) = Int32.ofNat g) : ∃ υ, jX10_feed_76_L23 τ m x1 x2 x3 x4 x5 (zi k) y = some (.inl (υ, zi (k + 1))) ∧ RTA σ υ m (t ++ [b8 (y >>> Int32.ofNat g)]) := by
  obtain ⟨h1, h2, h3, h4, h5, h6, h7, h8⟩ := h
  have hs2 : rsh τ m := rsh_fr hs h1 (by rw [h2])
  have g4 : zsB τ (m + 10) (zi t.length) (b8 (y >>> Int32.ofNat g)) = some (zuI τ (m + 10) t.length (b8 (y >>> Int32.ofNat g))) := by
    rw [zsB_of t.length (rk_buf hs2) rfl hl (by decide), show b8 (b8 (y >>> Int32.ofNat g)) = b8 (y >>> Int32.ofNat g) from b8_b8 _]
  have hs3 : rsh (zuI τ (m + 10) t.length (b8 (y >>> Int32.ofNat g))) m := rsh_uI hs2
  have e10 : (zuI τ (m + 10) t.length (b8 (y >>> Int32.ofNat g))).2.1 m = τ.2.1 m := zu_off _ _ _ (by omega)
  refine ⟨zuI (zuI τ (m + 10) t.length (b8 (y >>> Int32.ofNat g))) m 15 (zi (t.length + 1)), ?_, h1, h2, fun a n1 n2 => ?_, fun j n1 n2 => ?_, ?_, ?_, ?_, fun i hi => ?_⟩
  · unfold jX10_feed_76_L23
    rw [rg_buf hs2, Option.bind_some, rg_i hs2, Option.bind_some, h6, hg]
    rw [show (y >>> Int32.ofNat g).toInt8.toInt32 = b8 (y >>> Int32.ofNat g) from rfl, g4, Option.bind_some, rg_i hs3, Option.bind_some, e10, h6, zi_add, rp_i hs3, Option.bind_some, zi_add]
  · rw [show (zuI (zuI τ (m + 10) t.length (b8 (y >>> Int32.ofNat g))) m 15 (zi (t.length + 1))).2.1 a = (zuI τ (m + 10) t.length (b8 (y >>> Int32.ofNat g))).2.1 a from zu_off _ _ _ n1, show (zuI τ (m + 10) t.length (b8 (y >>> Int32.ofNat g))).2.1 a = τ.2.1 a from zu_off _ _ _ n2]
    exact h3 a n1 n2
  · rw [zuI_rd, if_neg n1, e10]
    exact h4 j n1 n2
  · rw [zuI_rd, if_neg (by omega), e10]
    exact h5
  · rw [zuI_rd, if_pos rfl, List.length_append, List.length_singleton, Int.natCast_add]
    rfl
  · rw [List.length_append, List.length_singleton]
    omega
  · rw [show (zuI (zuI τ (m + 10) t.length (b8 (y >>> Int32.ofNat g))) m 15 (zi (t.length + 1))).2.1 (m + 10) = (zuI τ (m + 10) t.length (b8 (y >>> Int32.ofNat g))).2.1 (m + 10) from zu_off _ _ _ (by omega), zuI_rd]
    rw [List.length_append, List.length_singleton] at hi
    by_cases e : i = t.length
    · subst e
      rw [if_pos rfl, gD_end]
    · rw [if_neg e, gD_app (by omega)]
      exact h8 i (by omega)
/-- the twenty bytes -/
def fbs (a b c d e : Int32) : List Int32 := fourb a ++ fourb b ++ fourb c ++ fourb d ++ fourb e
theorem rt_app {f : Option ((zS × Int32) ⊕ zS)} {x : Int32} {l l2 : List Int32} {v : Int32} (h : ∃ υ, f = some (.inl (υ, x)) ∧ RTA σ υ m (t ++ l ++ [v])) (e : l ++ [v] = l2) : ∃ υ, f = some (.inl (υ, x)) ∧ RTA σ υ m (t ++ l2) := by
  subst e
  rw [← List.append_assoc]
  exact h
theorem rt_step {k : Nat} {a b c d e : Int32} (hs : rsh σ m) (h : RTA σ τ m (t ++ (fbs a b c d e).take k)) (hl : t.length + 20 ≤ 300) (hk : k < 20) : ∃ υ, sX10_feed_23 m a b c d e (τ, zi k) = some (.inl (υ, zi (k + 1))) ∧ RTA σ υ m (t ++ (fbs a b c d e).take (k + 1)) := by
  have hl2 : (t ++ (fbs a b c d e).take k).length < 300 := by
    rw [List.length_append, List.length_take]
    have : (fbs a b c d e).length = 20 := rfl
    omega
  have L : ∀ (j : Int), 0 ≤ j → j < 2147483648 → ((zi j ≤ zi k) = (j ≤ (k : Int))) := fun j j1 j2 => propext (zi_le (by omega) j2 (by omega) (by omega))
  unfold sX10_feed_23 sX10_feed_23b
  dsimp only
  simp only [L 20 (by omega) (by omega), L 16 (by omega) (by omega), L 12 (by omega) (by omega), L 8 (by omega) (by omega), L 4 (by omega) (by omega)]
  have : k = 0 ∨ k = 1 ∨ k = 2 ∨ k = 3 ∨ k = 4 ∨ k = 5 ∨ k = 6 ∨ k = 7 ∨ k = 8 ∨ k = 9 ∨ k = 10 ∨ k = 11 ∨ k = 12 ∨ k = 13 ∨ k = 14 ∨ k = 15 ∨ k = 16 ∨ k = 17 ∨ k = 18 ∨ k = 19 := by omega
  rcases this with rfl | rfl | rfl | rfl | rfl | rfl | rfl | rfl | rfl | rfl | rfl | rfl | rfl | rfl | rfl | rfl | rfl | rfl | rfl | rfl
  · rw [if_neg (show ¬ (20 : Int) ≤ ((0 : Nat) : Int) by decide), if_neg (show ¬ (4 : Int) ≤ ((0 : Nat) : Int) by decide)]
    exact rt_app (rt_byte (g := 24) hs h hl2 hk (by decide)) rfl
  · rw [if_neg (show ¬ (20 : Int) ≤ ((1 : Nat) : Int) by decide), if_neg (show ¬ (4 : Int) ≤ ((1 : Nat) : Int) by decide)]
    exact rt_app (rt_byte (g := 16) hs h hl2 hk (by decide)) rfl
  · rw [if_neg (show ¬ (20 : Int) ≤ ((2 : Nat) : Int) by decide), if_neg (show ¬ (4 : Int) ≤ ((2 : Nat) : Int) by decide)]
    exact rt_app (rt_byte (g := 8) hs h hl2 hk (by decide)) rfl
  · rw [if_neg (show ¬ (20 : Int) ≤ ((3 : Nat) : Int) by decide), if_neg (show ¬ (4 : Int) ≤ ((3 : Nat) : Int) by decide)]
    exact rt_app (rt_byte (g := 0) hs h hl2 hk (by decide)) rfl
  · rw [if_neg (show ¬ (20 : Int) ≤ ((4 : Nat) : Int) by decide), if_pos (show (4 : Int) ≤ ((4 : Nat) : Int) by decide), if_neg (show ¬ (8 : Int) ≤ ((4 : Nat) : Int) by decide)]
    exact rt_app (rt_byte (g := 24) hs h hl2 hk (by decide)) rfl
  · rw [if_neg (show ¬ (20 : Int) ≤ ((5 : Nat) : Int) by decide), if_pos (show (4 : Int) ≤ ((5 : Nat) : Int) by decide), if_neg (show ¬ (8 : Int) ≤ ((5 : Nat) : Int) by decide)]
    exact rt_app (rt_byte (g := 16) hs h hl2 hk (by decide)) rfl
  · rw [if_neg (show ¬ (20 : Int) ≤ ((6 : Nat) : Int) by decide), if_pos (show (4 : Int) ≤ ((6 : Nat) : Int) by decide), if_neg (show ¬ (8 : Int) ≤ ((6 : Nat) : Int) by decide)]
    exact rt_app (rt_byte (g := 8) hs h hl2 hk (by decide)) rfl
  · rw [if_neg (show ¬ (20 : Int) ≤ ((7 : Nat) : Int) by decide), if_pos (show (4 : Int) ≤ ((7 : Nat) : Int) by decide), if_neg (show ¬ (8 : Int) ≤ ((7 : Nat) : Int) by decide)]
    exact rt_app (rt_byte (g := 0) hs h hl2 hk (by decide)) rfl
  · rw [if_neg (show ¬ (20 : Int) ≤ ((8 : Nat) : Int) by decide), if_pos (show (4 : Int) ≤ ((8 : Nat) : Int) by decide), if_pos (show (8 : Int) ≤ ((8 : Nat) : Int) by decide), if_neg (show ¬ (12 : Int) ≤ ((8 : Nat) : Int) by decide)]
    exact rt_app (rt_byte (g := 24) hs h hl2 hk (by decide)) rfl
  · rw [if_neg (show ¬ (20 : Int) ≤ ((9 : Nat) : Int) by decide), if_pos (show (4 : Int) ≤ ((9 : Nat) : Int) by decide), if_pos (show (8 : Int) ≤ ((9 : Nat) : Int) by decide), if_neg (show ¬ (12 : Int) ≤ ((9 : Nat) : Int) by decide)]
    exact rt_app (rt_byte (g := 16) hs h hl2 hk (by decide)) rfl
  · rw [if_neg (show ¬ (20 : Int) ≤ ((10 : Nat) : Int) by decide), if_pos (show (4 : Int) ≤ ((10 : Nat) : Int) by decide), if_pos (show (8 : Int) ≤ ((10 : Nat) : Int) by decide), if_neg (show ¬ (12 : Int) ≤ ((10 : Nat) : Int) by decide)]
    exact rt_app (rt_byte (g := 8) hs h hl2 hk (by decide)) rfl
  · rw [if_neg (show ¬ (20 : Int) ≤ ((11 : Nat) : Int) by decide), if_pos (show (4 : Int) ≤ ((11 : Nat) : Int) by decide), if_pos (show (8 : Int) ≤ ((11 : Nat) : Int) by decide), if_neg (show ¬ (12 : Int) ≤ ((11 : Nat) : Int) by decide)]
    exact rt_app (rt_byte (g := 0) hs h hl2 hk (by decide)) rfl
  · rw [if_neg (show ¬ (20 : Int) ≤ ((12 : Nat) : Int) by decide), if_pos (show (4 : Int) ≤ ((12 : Nat) : Int) by decide), if_pos (show (8 : Int) ≤ ((12 : Nat) : Int) by decide), if_pos (show (12 : Int) ≤ ((12 : Nat) : Int) by decide), if_neg (show ¬ (16 : Int) ≤ ((12 : Nat) : Int) by decide)]
    exact rt_app (rt_byte (g := 24) hs h hl2 hk (by decide)) rfl
  · rw [if_neg (show ¬ (20 : Int) ≤ ((13 : Nat) : Int) by decide), if_pos (show (4 : Int) ≤ ((13 : Nat) : Int) by decide), if_pos (show (8 : Int) ≤ ((13 : Nat) : Int) by decide), if_pos (show (12 : Int) ≤ ((13 : Nat) : Int) by decide), if_neg (show ¬ (16 : Int) ≤ ((13 : Nat) : Int) by decide)]
    exact rt_app (rt_byte (g := 16) hs h hl2 hk (by decide)) rfl
  · rw [if_neg (show ¬ (20 : Int) ≤ ((14 : Nat) : Int) by decide), if_pos (show (4 : Int) ≤ ((14 : Nat) : Int) by decide), if_pos (show (8 : Int) ≤ ((14 : Nat) : Int) by decide), if_pos (show (12 : Int) ≤ ((14 : Nat) : Int) by decide), if_neg (show ¬ (16 : Int) ≤ ((14 : Nat) : Int) by decide)]
    exact rt_app (rt_byte (g := 8) hs h hl2 hk (by decide)) rfl
  · rw [if_neg (show ¬ (20 : Int) ≤ ((15 : Nat) : Int) by decide), if_pos (show (4 : Int) ≤ ((15 : Nat) : Int) by decide), if_pos (show (8 : Int) ≤ ((15 : Nat) : Int) by decide), if_pos (show (12 : Int) ≤ ((15 : Nat) : Int) by decide), if_neg (show ¬ (16 : Int) ≤ ((15 : Nat) : Int) by decide)]
    exact rt_app (rt_byte (g := 0) hs h hl2 hk (by decide)) rfl
  · rw [if_neg (show ¬ (20 : Int) ≤ ((16 : Nat) : Int) by decide), if_pos (show (4 : Int) ≤ ((16 : Nat) : Int) by decide), if_pos (show (8 : Int) ≤ ((16 : Nat) : Int) by decide), if_pos (show (12 : Int) ≤ ((16 : Nat) : Int) by decide), if_pos (show (16 : Int) ≤ ((16 : Nat) : Int) by decide)]
    exact rt_app (rt_byte (g := 24) hs h hl2 hk (by decide)) rfl
  · rw [if_neg (show ¬ (20 : Int) ≤ ((17 : Nat) : Int) by decide), if_pos (show (4 : Int) ≤ ((17 : Nat) : Int) by decide), if_pos (show (8 : Int) ≤ ((17 : Nat) : Int) by decide), if_pos (show (12 : Int) ≤ ((17 : Nat) : Int) by decide), if_pos (show (16 : Int) ≤ ((17 : Nat) : Int) by decide)]
    exact rt_app (rt_byte (g := 16) hs h hl2 hk (by decide)) rfl
  · rw [if_neg (show ¬ (20 : Int) ≤ ((18 : Nat) : Int) by decide), if_pos (show (4 : Int) ≤ ((18 : Nat) : Int) by decide), if_pos (show (8 : Int) ≤ ((18 : Nat) : Int) by decide), if_pos (show (12 : Int) ≤ ((18 : Nat) : Int) by decide), if_pos (show (16 : Int) ≤ ((18 : Nat) : Int) by decide)]
    exact rt_app (rt_byte (g := 8) hs h hl2 hk (by decide)) rfl
  · rw [if_neg (show ¬ (20 : Int) ≤ ((19 : Nat) : Int) by decide), if_pos (show (4 : Int) ≤ ((19 : Nat) : Int) by decide), if_pos (show (8 : Int) ≤ ((19 : Nat) : Int) by decide), if_pos (show (12 : Int) ≤ ((19 : Nat) : Int) by decide), if_pos (show (16 : Int) ≤ ((19 : Nat) : Int) by decide)]
    exact rt_app (rt_byte (g := 0) hs h hl2 hk (by decide)) rfl
theorem RI_tx (h : RI σ m P nm M H S tx er ea ou) : RTx σ m tx := h.2.2.2.2.1
theorem RI_er (h : RI σ m P nm M H S tx er ea ou) : σ.2.1 m 22 = zi er ∧ σ.2.1 m 23 = zi ea := h.2.2.2.2.2.1
theorem RI_ou (h : RI σ m P nm M H S tx er ea ou) : ROu σ m ou := h.2.2.2.2.2.2
theorem rc_feed {a b c d e : Int32} (h : RI σ m P nm M H S tx er ea ou) : ∃ τ, fX10_feed σ m a b c d e = some (τ, zi (aFed tx)) ∧ RI τ m P nm M H S (aFeed tx a b c d e) er ea ou ∧ zfr m (m + 15) σ τ := by
  have hs := h.1.1
  have hs2 : rsh (zuI σ m 0 (zi 0)) m := rsh_uI hs
  obtain ⟨t1, t2, t3⟩ := RI_tx h
  have e15 : (zuI σ m 0 (zi 0)).2.1 m 15 = zi tx.length := by rw [zuI_rd, if_neg (by omega), t1]
  unfold fX10_feed aFed aFeed
  rw [rp_i hs, Option.bind_some, rg_i hs2, Option.bind_some, e15, zi_add]
  by_cases hl : tx.length + 20 ≤ 300
  · rw [if_pos ((zi_le (by omega) (by omega) (by omega) (by omega)).2 (by omega)), if_pos hl, if_pos hl]
    have hT : RTA σ (zuI σ m 0 (zi 0)) m (tx ++ (fbs a b c d e).take 0) := by
      rw [List.take_zero, List.append_nil]
      refine ⟨rfl, rfl, fun x n1 n2 => zu_off _ _ _ n1, fun j n1 n2 => by rw [zuI_rd, if_neg n2], by rw [zuI_rd, if_pos rfl], e15, t2, fun i hi => ?_⟩
      rw [show (zuI σ m 0 (zi 0)).2.1 (m + 10) = σ.2.1 (m + 10) from zu_off _ _ _ (by omega)]
      exact t3 i hi
    obtain ⟨o, e1, hT2⟩ := zloop_run (step := sX10_feed_23 m a b c d e) (fuel := zfuel) 20 (fun k s => s.2 = zi k ∧ RTA σ s.1 m (tx ++ (fbs a b c d e).take k)) (fun o => RTA σ o m (tx ++ (fbs a b c d e).take 20)) (fun k s hk hp => by
      obtain ⟨s1, s2⟩ := s
      obtain ⟨q1, q2⟩ := hp
      dsimp only at q1
      subst q1
      obtain ⟨υ, u1, u2⟩ := rt_step (k := k) hs q2 hl hk
      exact Or.inl ⟨_, u1, rfl, u2⟩) (fun s hp => by
      obtain ⟨s1, s2⟩ := s
      obtain ⟨q1, q2⟩ := hp
      dsimp only at q1
      subst q1
      refine ⟨s1, ?_, q2⟩
      unfold sX10_feed_23 sX10_feed_23b
      exact if_pos (show zi 20 ≤ zi ((20 : Nat) : Int) by decide)) (by decide) (s := (zuI σ m 0 (zi 0), zi 0)) ⟨rfl, hT⟩
    have hA : tx ++ (fbs a b c d e).take 20 = tx ++ fourb a ++ fourb b ++ fourb c ++ fourb d ++ fourb e := by
      rw [List.take_of_length_le (Nat.le_refl 20)]
      unfold fbs
      simp only [List.append_assoc]
    rw [hA] at hT2
    obtain ⟨h1, h2, h3, h4, h5, h6⟩ := hT2
    rw [e1, Option.bind_some, rg_i (rsh_fr hs h1 (by rw [h2])), Option.bind_some, h6.1]
    refine ⟨o, ?_, RI_io h h1 (by rw [h2]) (by rw [h2]) (fun j hj => h4 j (by omega) (by omega)) (fun o ho => h3 _ (by omega) (by omega)) h6 ?_ ?_, h1, fun x hx => ⟨h3 x (by omega) (by omega), by rw [h2], by rw [h2]⟩⟩
    · rw [show (tx ++ fourb a ++ fourb b ++ fourb c ++ fourb d ++ fourb e).length = tx.length + 20 from by simp only [List.length_append]; rfl]
      rfl
    · rw [h4 22 (by omega) (by omega), h4 23 (by omega) (by omega)]
      exact RI_er h
    · unfold ROu
      rw [h4 31 (by omega) (by omega), h3 (m + 14) (by omega) (by omega)]
      exact RI_ou h
  · rw [if_neg (fun q => hl (by have := (zi_le (by omega) (by omega) (by omega) (by omega)).1 q; omega)), if_neg hl, if_neg hl]
    exact ⟨_, rfl, RI_tl h, zfr_wide zfr_I (by omega) (by omega)⟩
theorem rc_trunc {n : Int} (h : RI σ m P nm M H S tx er ea ou) (hn : zin n) : ∃ τ, fX10_truncate σ m (zi n) = some (τ, zb (aTrunc tx n)) ∧ RI τ m P nm M H S (aTruncT tx n) er ea ou ∧ zfr m (m + 15) σ τ := by
  have hs := h.1.1
  have hs2 : rsh (zuI σ m 0 (zi 0)) m := rsh_uI hs
  obtain ⟨t1, t2, t3⟩ := RI_tx h
  have e15 : (zuI σ m 0 (zi 0)).2.1 m 15 = zi tx.length := by rw [zuI_rd, if_neg (by omega), t1]
  unfold fX10_truncate aTruncT
  rw [rp_i hs, Option.bind_some, rg_i hs2, Option.bind_some, e15, f_in (a := n) (l := 0) (h := tx.length) (l_zi hn) rfl (l_zi ⟨by omega, by omega⟩), Option.bind_some]
  by_cases hl : 0 ≤ n ∧ n ≤ (tx.length : Int)
  · rw [decide_eq_true hl, if_neg zt, if_pos hl, rp_i hs2, Option.bind_some]
    have hl2 : (tx.take n.toNat).length = n.toNat := by
      rw [List.length_take]
      omega
    refine ⟨zuI (zuI σ m 0 (zi 0)) m 15 (zi n), ?_, RI_io h rfl rfl rfl (fun j hj => ?_) (fun o ho => ?_) ⟨?_, by omega, fun i hi => ?_⟩ ?_ ?_, rfl, fun x hx => ⟨?_, rfl, rfl⟩⟩
    · unfold aTrunc
      rw [decide_eq_true hl]
      rfl
    · rw [zuI_rd, if_neg (by omega), zuI_rd, if_neg (by omega)]
    · rw [show (zuI (zuI σ m 0 (zi 0)) m 15 (zi n)).2.1 (m + o) = (zuI σ m 0 (zi 0)).2.1 (m + o) from zu_off _ _ _ (by omega)]
      exact zu_off _ _ _ (by omega)
    · rw [zuI_rd, if_pos rfl, hl2]
      congr 1
      omega
    · rw [show (zuI (zuI σ m 0 (zi 0)) m 15 (zi n)).2.1 (m + 10) = (zuI σ m 0 (zi 0)).2.1 (m + 10) from zu_off _ _ _ (by omega), show (zuI σ m 0 (zi 0)).2.1 (m + 10) = σ.2.1 (m + 10) from zu_off _ _ _ (by omega), gD_take (by omega)]
      exact t3 i (by omega)
    · rw [zuI_rd, if_neg (by omega), zuI_rd, if_neg (by omega), zuI_rd, if_neg (by omega), zuI_rd, if_neg (by omega)]
      exact RI_er h
    · unfold ROu
      rw [zuI_rd, if_neg (by omega), zuI_rd, if_neg (by omega), show (zuI (zuI σ m 0 (zi 0)) m 15 (zi n)).2.1 (m + 14) = (zuI σ m 0 (zi 0)).2.1 (m + 14) from zu_off _ _ _ (by omega), show (zuI σ m 0 (zi 0)).2.1 (m + 14) = σ.2.1 (m + 14) from zu_off _ _ _ (by omega)]
      exact RI_ou h
    · rw [show (zuI (zuI σ m 0 (zi 0)) m 15 (zi n)).2.1 x = (zuI σ m 0 (zi 0)).2.1 x from zu_off _ _ _ (by omega)]
      exact zu_off _ _ _ (by omega)
  · rw [decide_eq_false hl, if_pos zf, if_neg hl]
    refine ⟨zuI σ m 0 (zi 0), ?_, RI_tl h, zfr_wide zfr_I (by omega) (by omega)⟩
    unfold aTrunc
    rw [decide_eq_false hl]
    rfl
theorem rc_ecode (h : RI σ m P nm M H S tx er ea ou) : fX10_errorCode σ m = some (zuI σ m 0 (zi 0), zi er) := by
  unfold fX10_errorCode
  rw [rp_i h.1.1, Option.bind_some, rg_i (rsh_uI h.1.1), Option.bind_some, zuI_rd, if_neg (by omega), (RI_er h).1]
theorem rc_eoff (h : RI σ m P nm M H S tx er ea ou) : fX10_errorOffset σ m = some (zuI σ m 0 (zi 0), zi ea) := by
  unfold fX10_errorOffset
  rw [rp_i h.1.1, Option.bind_some, rg_i (rsh_uI h.1.1), Option.bind_some, zuI_rd, if_neg (by omega), (RI_er h).2]
theorem rc_byte {i : Int} (h : RI σ m P nm M H S tx er ea ou) (hi : zin i) : fX10_outputByte σ m (zi i) = some (zuI σ m 0 (zi 0), aByte ou i) := by
  have hs2 : rsh (zuI σ m 0 (zi 0)) m := rsh_uI h.1.1
  obtain ⟨t1, t2, t3⟩ := RI_ou h
  unfold fX10_outputByte aByte
  have e1 : ((zi ou.length).toInt64 - 1).toInt = (ou.length : Int) - 1 := by
    rw [Int64.toInt_sub, l_zi ⟨by omega, by omega⟩]
    show Int.bmod ((ou.length : Int) - 1) (2 ^ 64) = _
    rw [Int.bmod_eq_of_le (by omega) (by omega)]
  rw [rp_i h.1.1, Option.bind_some, rg_i hs2, Option.bind_some, zuI_rd, if_neg (by omega), t1, f_in (a := i) (l := 0) (h := (ou.length : Int) - 1) (l_zi hi) rfl e1, Option.bind_some]
  by_cases hl : 0 ≤ i ∧ i < (ou.length : Int)
  · rw [decide_eq_true (show 0 ≤ i ∧ i ≤ (ou.length : Int) - 1 by omega), if_neg zt, if_pos hl, rg_out hs2, Option.bind_some, zaB_of i.toNat (rk_out hs2) (by omega) (by omega) (by decide), Option.bind_some, show (zuI σ m 0 (zi 0)).2.1 (m + 14) = σ.2.1 (m + 14) from zu_off _ _ _ (by omega), t3 _ (by omega)]
  · rw [decide_eq_false (show ¬ (0 ≤ i ∧ i ≤ (ou.length : Int) - 1) by omega), if_pos zf, if_neg hl]
end RT
