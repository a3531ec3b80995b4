/-! What setup's text is made of: letters, and how many. -/
def T8 (l : List Int32) : Prop := ∀ c, c ∈ l → ∃ n, n < 128 ∧ c = nI n
theorem T8_app {a b : List Int32} (h : T8 a) (g : T8 b) : T8 (a ++ b) := fun c hc => (List.mem_append.mp hc).elim (h c) (g c)
theorem T8_T7 {tx : List Int32} (h : T8 tx) : T7 tx := fun i hi => by
  obtain ⟨n, h1, h2⟩ := h tx[i] (List.getElem_mem hi)
  refine ⟨n, h1, ?_⟩
  rw [List.getD_eq_getElem?_getD, List.getElem?_eq_getElem hi]
  exact h2
theorem T8_of {l : List Int32} (h : l.all (fun c => decide (0 ≤ c.toInt) && decide (c.toInt < 128)) = true) : T8 l := fun c hc => by
  have h1 := List.all_eq_true.mp h c hc
  rw [Bool.and_eq_true, decide_eq_true_iff, decide_eq_true_iff] at h1
  refine ⟨c.toInt.toNat, by omega, Int32.toInt_inj.1 ?_⟩
  rw [nI_toInt (by omega)]
  omega
theorem T8_zl (i : Nat) (hi : i < 10) : T8 (zlT i) := by
  have h : ∀ i, i < 10 → (zlT i).all (fun c => decide (0 ≤ c.toInt) && decide (c.toInt < 128)) = true := by decide
  exact T8_of (h i hi)
theorem T8_one {k : Nat} (h : k < 128) : T8 [zi (k : Nat)] := fun c hc => by
  rw [List.mem_singleton] at hc
  exact ⟨k, h, by rw [hc, zi_nI]⟩
theorem T8_dgt {v : Nat} (h : v ≤ 99) : T8 (dgt v) := by
  unfold dgt
  split
  · exact T8_one (k := 48 + v) (by omega)
  · exact T8_app (a := [zi ((48 + v / 10 : Nat) : Int)]) (T8_one (k := 48 + v / 10) (by omega)) (T8_one (k := 48 + v % 10) (by omega))
theorem T8_stx {k x y z : Nat} (hk : k < 20) (hx : x ≤ 99) (hy : y ≤ 99) (hz : z ≤ 99) : T8 (stx k x y z) := by
  unfold stx
  exact T8_app (T8_zl 0 (by omega)) (T8_app (T8_one (k := 97 + k) (by omega)) (T8_app (T8_zl 1 (by omega)) (T8_app (T8_dgt hx) (T8_app (T8_zl 2 (by omega)) (T8_app (T8_dgt hy) (T8_app (T8_zl 3 (by omega)) (T8_app (T8_dgt hz) (T8_one (k := 59) (by omega)))))))))
theorem T8_ssrc {ra rb rc : Nat → Nat} (h : ∀ k, ra k ≤ 99 ∧ rb k ≤ 99 ∧ rc k ≤ 99) : ∀ n, n ≤ 20 → T8 (ssrc ra rb rc n)
  | 0, _ => fun c hc => absurd hc (by
      show ¬ c ∈ ([] : List Int32)
      exact List.not_mem_nil)
  | n + 1, hn => by
    rw [ssrc_succ]
    exact T8_app (T8_ssrc h n (by omega)) (T8_stx (by omega) (h n).1 (h n).2.1 (h n).2.2)
theorem T8_stail {m si ro ev : Nat} {o : List Int32} (hm : m ≤ 99) (hs : si ≤ 99) (hr : ro ≤ 99) (he : ev ≤ 99) (ho : T8 o) : T8 (stail m si ro ev o) := by
  unfold stail
  exact T8_app (T8_zl 4 (by omega)) (T8_app (T8_dgt hm) (T8_app (T8_zl 5 (by omega)) (T8_app (T8_dgt hs) (T8_app (T8_zl 6 (by omega)) (T8_app (T8_dgt hr) (T8_app (T8_zl 7 (by omega)) (T8_app (T8_dgt he) (T8_app (a := [zi 59]) (T8_one (k := 59) (by omega)) ho))))))))
theorem stx_len (k x y z : Nat) : (stx k x y z).length ≤ 50 := by
  unfold stx
  simp only [List.length_append, List.length_singleton]
  have h0 : (zlT 0).length = 7 := rfl
  have h1 : (zlT 1).length = 9 := rfl
  have h2 : (zlT 2).length = 6 := rfl
  have h3 : (zlT 3).length = 5 := rfl
  have := dgt_len x
  have := dgt_len y
  have := dgt_len z
  omega
theorem ssrc_len (ra rb rc : Nat → Nat) : ∀ n, (ssrc ra rb rc n).length ≤ 50 * n
  | 0 => Nat.le_refl 0
  | n + 1 => by
    rw [ssrc_succ, List.length_append]
    have := ssrc_len ra rb rc n
    have := stx_len n (ra n) (rb n) (rc n)
    omega
theorem stail_len (m si ro ev : Nat) {o : List Int32} (ho : o.length ≤ 10) : (stail m si ro ev o).length ≤ 60 := by
  unfold stail
  simp only [List.length_append, List.length_cons]
  have h0 : (zlT 4).length = 10 := rfl
  have h1 : (zlT 5).length = 7 := rfl
  have h2 : (zlT 6).length = 6 := rfl
  have h3 : (zlT 7).length = 7 := rfl
  have := dgt_len m
  have := dgt_len si
  have := dgt_len ro
  have := dgt_len ev
  omega
/-- the drawn text: its letters, its length, what it's parsed to -/
theorem xT_ok (xs : Nat → Int32) (L : Nat) : T7 (xT xs L) ∧ (xT xs L).length ≤ 280 ∧ ∃ D, ppa (xT xs L) = .inr D ∧ D.1 = xN xs L := by
  have hn := dr_in xs L 0 (lo := 1) (hi := 3) (by omega)
  have hn3 : 1 ≤ xN xs L ∧ xN xs L ≤ 3 := by unfold xN; omega
  have hA : ∀ k, xA xs L k ≤ 40 := fun k => by have := dr_in xs L (1 + k) (lo := 0) (hi := 40) (by omega); unfold xA; omega
  have hB : ∀ k, xB xs L k ≤ 99 := fun k => by have := dr_in xs L (4 + k) (lo := 0) (hi := 99) (by omega); unfold xB; omega
  have hC : ∀ k, xC xs L k ≤ 5 := fun k => by have := dr_in xs L (7 + k) (lo := 0) (hi := 5) (by omega); unfold xC; omega
  have hM : 1 ≤ xM xs L ∧ xM xs L ≤ 4 := by have := dr_in xs L 10 (lo := 1) (hi := 4) (by omega); unfold xM; omega
  have hS : 1 ≤ xS xs L ∧ xS xs L ≤ 2 := by have := dr_in xs L 11 (lo := 1) (hi := 2) (by omega); unfold xS; omega
  have hR : 1 ≤ xR xs L ∧ xR xs L ≤ 4 := by have := dr_in xs L 12 (lo := 1) (hi := 4) (by omega); unfold xR; omega
  have hE : xE xs L ≤ 12 := by have := dr_in xs L 13 (lo := 0) (hi := 12) (by omega); unfold xE; omega
  have hO : xO xs L = zlT 8 ∨ xO xs L = zlT 9 := by
    unfold xO
    split
    · exact Or.inl rfl
    · exact Or.inr rfl
  have hO8 : T8 (xO xs L) ∧ (xO xs L).length ≤ 10 := by
    rcases hO with q | q
    · rw [q]
      exact ⟨T8_zl 8 (by omega), by decide⟩
    · rw [q]
      exact ⟨T8_zl 9 (by omega), by decide⟩
  refine ⟨T8_T7 ?_, ?_, pset_ok hn3 (fun k _ => ⟨hA k, hB k, hC k⟩) hM hS hR hE hO⟩
  · unfold xT
    exact T8_app (T8_ssrc (fun k => ⟨by have := hA k; omega, hB k, by have := hC k; omega⟩) _ (by omega)) (T8_stail (by omega) (by omega) (by omega) (by omega) hO8.1)
  · unfold xT
    rw [List.length_append]
    have h1 := ssrc_len (xA xs L) (xB xs L) (xC xs L) (xN xs L)
    have h2 := stail_len (xM xs L) (xS xs L) (xR xs L) (xE xs L) hO8.2
    omega
