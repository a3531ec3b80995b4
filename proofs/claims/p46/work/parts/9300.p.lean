/-! The constructors as mathematics: cells told from one address on; what is known of their kinds, references and numbers. -/
def zgr (lo hi : Nat) (σ τ : zS) : Prop := ∀ a, (a < lo ∨ hi ≤ a) → τ.1 a = σ.1 a ∧ τ.2.1 a = σ.2.1 a ∧ τ.2.2.1 a = σ.2.2.1 a ∧ τ.2.2.2 a = σ.2.2.2 a
section GR
variable {σ τ υ : zS} {lo hi l2 h2 N a j x n : Nat} {q : Nat × Nat} {v : Option Nat}
theorem zgr_refl : zgr lo hi σ σ := fun _ _ => ⟨rfl, rfl, rfl, rfl⟩
theorem zgr_trans (h : zgr lo hi σ τ) (g : zgr lo hi τ υ) : zgr lo hi σ υ := fun a ha => by
  obtain ⟨a1, a2, a3, a4⟩ := h a ha
  obtain ⟨b1, b2, b3, b4⟩ := g a ha
  exact ⟨b1.trans a1, b2.trans a2, b3.trans a3, b4.trans a4⟩
theorem zgr_wide (h : zgr lo hi σ τ) (h1 : l2 ≤ lo) (h3 : hi ≤ h2) : zgr l2 h2 σ τ := fun a ha => h a (by omega)
theorem zgr_fr (h : zfr lo hi σ τ) : zgr lo hi σ τ := fun a ha => ⟨by rw [h.1], h.2 a ha⟩
theorem zgr_eq (h : zgr lo hi σ τ) (hd : h2 ≤ lo ∨ hi ≤ l2) : zeq σ τ l2 h2 := fun a h3 h4 => h a (by omega)
theorem zgr_new : zgr N (N + 1) σ (znew σ N q) := fun a ha => znew_o (by omega)
theorem zpR_of {k r : Nat} (h : (σ.1 a).1 = k + 5) : zpR k j σ a (some r) = some (zuR σ a j (some r)) := if_pos h
theorem zpI_of {k : Nat} {i : Int32} (h : (σ.1 a).1 = k + 5) : zpI k j σ a i = some (zuI σ a j i) := if_pos h
theorem zgR_of {k r : Nat} (h : (σ.1 a).1 = k + 5) (h2 : σ.2.2.1 a j = some r) : zgR k j σ a = some r := by
  unfold zgR
  rw [if_pos h, h2]
end GR
/-- kinds, references (told from x on), numbers -/
def SK (x : Nat) (σ : zS) (ks : List (Nat × Nat × Nat)) (rs : List (Nat × Nat × Nat)) (is : List (Nat × Nat × Int)) : Prop :=
  (∀ p, p ∈ ks → σ.1 (x + p.1) = p.2) ∧ (∀ p, p ∈ rs → σ.2.2.1 (x + p.1) p.2.1 = some (x + p.2.2)) ∧ ∀ p, p ∈ is → σ.2.1 (x + p.1) p.2.1 = zi p.2.2
section SK
variable {σ τ σ0 : zS} {x n o j k len hi : Nat} {q : Nat × Nat} {ks rs k1 r1 : List (Nat × Nat × Nat)} {is i1 : List (Nat × Nat × Int)}
theorem SK_k (h : SK x σ ks rs is) (o : Nat) (q : Nat × Nat) (hm : (o, q) ∈ ks) : σ.1 (x + o) = q := h.1 _ hm
theorem SK_r (h : SK x σ ks rs is) (o j n : Nat) (hm : (o, j, n) ∈ rs) : σ.2.2.1 (x + o) j = some (x + n) := h.2.1 _ hm
theorem SK_i (h : SK x σ ks rs is) (o j : Nat) (v : Int) (hm : (o, j, v) ∈ is) : σ.2.1 (x + o) j = zi v := h.2.2 _ hm
theorem SK_gr (h : SK x σ ks rs is) (g : zgr (x + n) (x + n + len) σ τ) (h1 : ks.all (fun p => decide (p.1 < n ∨ n + len ≤ p.1)) = true) (h2 : rs.all (fun p => decide (p.1 < n ∨ n + len ≤ p.1)) = true) (h3 : is.all (fun p => decide (p.1 < n ∨ n + len ≤ p.1)) = true) : SK x τ ks rs is := by
  refine ⟨fun p hp => ?_, fun p hp => ?_, fun p hp => ?_⟩
  · have := of_decide_eq_true (List.all_eq_true.mp h1 p hp)
    rw [(g (x + p.1) (by omega)).1]
    exact h.1 p hp
  · have := of_decide_eq_true (List.all_eq_true.mp h2 p hp)
    rw [(g (x + p.1) (by omega)).2.2.1]
    exact h.2.1 p hp
  · have := of_decide_eq_true (List.all_eq_true.mp h3 p hp)
    rw [(g (x + p.1) (by omega)).2.1]
    exact h.2.2 p hp
theorem SK_new (h : SK x σ ks rs is) (js : List Nat) (h1 : ks.all (fun p => decide (p.1 ≠ n)) = true) (h2 : rs.all (fun p => decide (p.1 ≠ n)) = true) (h3 : is.all (fun p => decide (p.1 ≠ n)) = true) : SK x (znew σ (x + n) q) ((n, q) :: ks) rs (js.map (fun j => (n, j, 0)) ++ is) := by
  refine ⟨fun p hp => ?_, fun p hp => ?_, fun p hp => ?_⟩
  · rcases List.mem_cons.mp hp with rfl | hp
    · exact znew_k
    · have := of_decide_eq_true (List.all_eq_true.mp h1 p hp)
      rw [(znew_o (by omega)).1]
      exact h.1 p hp
  · have := of_decide_eq_true (List.all_eq_true.mp h2 p hp)
    rw [(znew_o (by omega)).2.2.1]
    exact h.2.1 p hp
  · rcases List.mem_append.mp hp with hp | hp
    · obtain ⟨j, -, rfl⟩ := List.mem_map.mp hp
      have e : (znew σ (x + n) q).2.1 (x + n) = fun _ => 0 := if_pos rfl
      dsimp only
      rw [e]
      rfl
    · have := of_decide_eq_true (List.all_eq_true.mp h3 p hp)
      rw [(znew_o (by omega)).2.1]
      exact h.2.2 p hp
theorem SK_R (h : SK x σ ks rs is) (h2 : rs.all (fun p => decide (p.1 ≠ o ∨ p.2.1 ≠ j)) = true) : SK x (zuR σ (x + o) j (some (x + n))) ks ((o, j, n) :: rs) is := by
  refine ⟨h.1, fun p hp => ?_, h.2.2⟩
  rcases List.mem_cons.mp hp with rfl | hp
  · exact if_pos ⟨rfl, rfl⟩
  · have := of_decide_eq_true (List.all_eq_true.mp h2 p hp)
    rw [show (zuR σ (x + o) j (some (x + n))).2.2.1 (x + p.1) p.2.1 = σ.2.2.1 (x + p.1) p.2.1 from if_neg (by omega)]
    exact h.2.1 p hp
theorem SK_I {v : Int} (h : SK x σ ks rs is) (h3 : is.all (fun p => decide (p.1 ≠ o ∨ p.2.1 ≠ j)) = true) : SK x (zuI σ (x + o) j (zi v)) ks rs ((o, j, v) :: is) := by
  refine ⟨h.1, h.2.1, fun p hp => ?_⟩
  rcases List.mem_cons.mp hp with rfl | hp
  · exact if_pos ⟨rfl, rfl⟩
  · have := of_decide_eq_true (List.all_eq_true.mp h3 p hp)
    rw [show (zuI σ (x + o) j (zi v)).2.1 (x + p.1) p.2.1 = σ.2.1 (x + p.1) p.2.1 from if_neg (by omega)]
    exact h.2.2 p hp
theorem SK_up (h : SK (x + n) σ ks rs is) : SK x σ (ks.map (fun p => (n + p.1, p.2))) (rs.map (fun p => (n + p.1, p.2.1, n + p.2.2))) (is.map (fun p => (n + p.1, p.2))) := by
  refine ⟨fun p hp => ?_, fun p hp => ?_, fun p hp => ?_⟩
  · obtain ⟨p, hp2, rfl⟩ := List.mem_map.mp hp
    dsimp only
    rw [← Nat.add_assoc]
    exact h.1 p hp2
  · obtain ⟨p, hp2, rfl⟩ := List.mem_map.mp hp
    dsimp only
    rw [← Nat.add_assoc, ← Nat.add_assoc]
    exact h.2.1 p hp2
  · obtain ⟨p, hp2, rfl⟩ := List.mem_map.mp hp
    dsimp only
    rw [← Nat.add_assoc]
    exact h.2.2 p hp2
theorem SK_app (h : SK x σ k1 r1 i1) (g : SK x σ ks rs is) : SK x σ (k1 ++ ks) (r1 ++ rs) (i1 ++ is) :=
  ⟨fun p hp => (List.mem_append.mp hp).elim (h.1 p) (g.1 p), fun p hp => (List.mem_append.mp hp).elim (h.2.1 p) (g.2.1 p), fun p hp => (List.mem_append.mp hp).elim (h.2.2 p) (g.2.2 p)⟩
theorem SK_nil (h : σ.1 x = q) : SK x σ [(0, q)] [] [] := ⟨fun p hp => by rw [List.mem_singleton.mp hp]; exact h, fun p hp => (by cases hp), fun p hp => (by cases hp)⟩
theorem SK_kd (h : SK x σ ks rs is) (h1 : τ.1 = σ.1) (h2 : τ.2.2.1 = σ.2.2.1) : SK x τ ks rs [] := ⟨fun p hp => by rw [h1]; exact h.1 p hp, fun p hp => by rw [h2]; exact h.2.1 p hp, fun p hp => (by cases hp)⟩
theorem SK_sub (h : SK x σ ks rs is) (h1 : k1.all (fun p => ks.contains p) = true) (h2 : r1.all (fun p => rs.contains p) = true) (h3 : i1.all (fun p => is.contains p) = true) : SK x σ k1 r1 i1 :=
  ⟨fun p hp => h.1 p (List.contains_iff_mem.mp (List.all_eq_true.mp h1 p hp)), fun p hp => h.2.1 p (List.contains_iff_mem.mp (List.all_eq_true.mp h2 p hp)), fun p hp => h.2.2 p (List.contains_iff_mem.mp (List.all_eq_true.mp h3 p hp))⟩
/-- a row is made and laid into a field -/
theorem st_arr {f : zS → Option zS} {P : zS → Prop} (h : SK x σ ks rs is) (g : zgr x (x + hi) σ0 σ) (k1 : Nat) (hk : (o, k1, 0) ∈ ks) (hk1 : k1 = k + 5) (ho : o < hi) (hn : n < hi) (h1 : ks.all (fun p => decide (p.1 ≠ n)) = true) (h2 : rs.all (fun p => decide (p.1 ≠ n)) = true) (h3 : is.all (fun p => decide (p.1 ≠ n)) = true) (h4 : rs.all (fun p => decide (p.1 ≠ o ∨ p.2.1 ≠ j)) = true) (hon : o ≠ n)
    (kk : ∀ σ', SK x σ' ((n, q) :: ks) ((o, j, n) :: rs) is → zgr x (x + hi) σ0 σ' → ∃ τ, f σ' = some τ ∧ P τ) : ∃ τ, (zpR k j (znew σ (x + n) q) (x + o) (some (x + n))).bind f = some τ ∧ P τ := by
  have hs := SK_R (o := o) (j := j) (n := n) (SK_new (q := q) h [] h1 h2 h3) h4
  have e : ((znew σ (x + n) q).1 (x + o)).1 = k + 5 := by
    rw [(znew_o (by omega)).1, h.1 _ hk]
    exact hk1
  obtain ⟨τ, e1, e2⟩ := kk _ hs (zgr_trans g (zgr_trans (zgr_wide (zgr_new (σ := σ) (N := x + n) (q := q)) (by omega) (by omega)) (zgr_wide (zgr_fr zfr_R) (by omega) (by omega))))
  exact ⟨τ, by rw [zpR_of e, Option.bind_some]; exact e1, e2⟩
/-- an object is laid into a field -/
theorem st_put {f : zS → Option zS} {P : zS → Prop} (h : SK x σ ks rs is) (g : zgr x (x + hi) σ0 σ) (k1 : Nat) (hk : (o, k1, 0) ∈ ks) (hk1 : k1 = k + 5) (ho : o < hi) (h4 : rs.all (fun p => decide (p.1 ≠ o ∨ p.2.1 ≠ j)) = true)
    (kk : ∀ σ', SK x σ' ks ((o, j, n) :: rs) is → zgr x (x + hi) σ0 σ' → zgr (x + o) (x + o + 1) σ σ' → ∃ τ, f σ' = some τ ∧ P τ) : ∃ τ, (zpR k j σ (x + o) (some (x + n))).bind f = some τ ∧ P τ := by
  have hs := SK_R (o := o) (j := j) (n := n) h h4
  have e : (σ.1 (x + o)).1 = k + 5 := by
    rw [h.1 _ hk]
    exact hk1
  obtain ⟨τ, e1, e2⟩ := kk _ hs (zgr_trans g (zgr_wide (zgr_fr zfr_R) (by omega) (by omega))) (zgr_fr zfr_R)
  exact ⟨τ, by rw [zpR_of e, Option.bind_some]; exact e1, e2⟩
/-- a field is read -/
theorem st_get {f : Nat → Option zS} {P : zS → Prop} (h : SK x σ ks rs is) (k1 : Nat) (n : Nat) (hk : (o, k1, 0) ∈ ks) (hk1 : k1 = k + 5) (hr : (o, j, n) ∈ rs) (kk : ∃ τ, f (x + n) = some τ ∧ P τ) : ∃ τ, (zgR k j σ (x + o)).bind f = some τ ∧ P τ := by
  have e : (σ.1 (x + o)).1 = k + 5 := by
    rw [h.1 _ hk]
    exact hk1
  obtain ⟨τ, e1, e2⟩ := kk
  exact ⟨τ, by rw [zgR_of e (h.2.1 _ hr), Option.bind_some]; exact e1, e2⟩
/-- a constructor's block is made -/
theorem st_sub {f : zS → Option zS} {P : zS → Prop} {g9 : zS → Option zS} {Z : zS → Prop} (h : SK x σ ks rs is) (g : zgr x (x + hi) σ0 σ) (js : List Nat) (hlen : 0 < len) (hn : n + len ≤ hi) (h1 : ks.all (fun p => decide (p.1 < n ∨ n + len ≤ p.1)) = true) (h2 : rs.all (fun p => decide (p.1 < n ∨ n + len ≤ p.1)) = true) (h3 : is.all (fun p => decide (p.1 < n ∨ n + len ≤ p.1)) = true)
    (hg : ∃ τ, g9 (znew σ (x + n) q) = some τ ∧ zgr (x + n) (x + n + len) (znew σ (x + n) q) τ ∧ SK (x + n) τ k1 r1 i1 ∧ Z τ)
    (kk : ∀ σ', SK x σ' (k1.map (fun p => (n + p.1, p.2)) ++ ks) (r1.map (fun p => (n + p.1, p.2.1, n + p.2.2)) ++ rs) (i1.map (fun p => (n + p.1, p.2)) ++ is) → zgr x (x + hi) σ0 σ' → zgr (x + n) (x + n + len) σ σ' → Z σ' → ∃ τ, f σ' = some τ ∧ P τ) : ∃ τ, (g9 (znew σ (x + n) q)).bind f = some τ ∧ P τ := by
  obtain ⟨τ, e1, e2, e3, e4⟩ := hg
  have e5 : zgr (x + n) (x + n + len) σ τ := zgr_trans (zgr_wide zgr_new (Nat.le_refl _) (by omega)) e2
  obtain ⟨υ, e6, e7⟩ := kk τ (SK_app (SK_up e3) (SK_gr h e5 h1 h2 h3)) (zgr_trans g (zgr_wide e5 (by omega) (by omega))) e5 e4
  exact ⟨υ, by rw [e1, Option.bind_some]; exact e6, e7⟩
end SK
