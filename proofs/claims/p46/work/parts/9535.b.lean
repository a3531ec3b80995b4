/-! A TEXT THAT IS BEING BUILT, in the abstract heap. -/
def SBd (σ : zS) (b da cap : Nat) (tx : List Int32) : Prop := (σ.1 b).1 = 15 ∧ σ.2.2.1 b 0 = some da ∧ σ.2.1 b 1 = 0 ∧ σ.2.1 b 3 = zi (tx.length : Nat) ∧ σ.1 da = (2, cap) ∧ tx.length ≤ cap ∧ (∀ i, i < tx.length → σ.2.1 da i = tx.getD i 0) ∧ ∀ i, i < cap → fits .byte (.int (σ.2.1 da i)) = true
def SBn (σ : zS) (N lo b : Nat) (tx : List Int32) (n : Nat) : Prop := ∃ da cap, SBd σ b da cap tx ∧ n ≤ cap ∧ (0 < cap ∧ cap ≤ 602) ∧ lo ≤ b ∧ lo ≤ da ∧ b < N ∧ da < N
def KSB (lo b : Nat) (tx : List Int32) (n : Nat) (σ τ : zS) (N2 : Nat) : Prop := SBn τ N2 lo b tx n ∧ zeq σ τ 0 lo ∧ zfree τ N2
section SBD
variable {σ τ υ : zS} {b da cap N lo n a j N2 N3 : Nat} {tx s : List Int32} {v : Int32}
theorem sb_ne (h : SBd σ b da cap tx) : b ≠ da := fun e => by
  have h1 := h.1
  rw [e, h.2.2.2.2.1] at h1
  cases h1
theorem sb_val (h : SBd σ b da cap tx) : zgR 10 0 σ b = some da := by
  unfold zgR
  rw [if_pos h.1, h.2.1]
theorem sb_cod (h : SBd σ b da cap tx) : zgI 10 1 σ b = some 0 := by
  unfold zgI
  rw [if_pos h.1, h.2.2.1]
theorem sb_cnt (h : SBd σ b da cap tx) : zgI 10 3 σ b = some (zi (tx.length : Nat)) := by
  unfold zgI
  rw [if_pos h.1, h.2.2.2.1]
theorem zlen_2 (h : σ.1 da = (2, cap)) : zlen σ da = some (zi (cap : Nat)) := by
  unfold zlen
  rw [h, if_neg (by dsimp only; omega), zi_nI]
  rfl
theorem sb_len (h : SBd σ b da cap tx) : zlen σ da = some (zi (cap : Nat)) := zlen_2 h.2.2.2.2.1
theorem shr_0 (x : Int32) : x >>> ((0 : Int32) &&& 31) = x := by
  rw [show ((0 : Int32) &&& 31) = 0 by decide]
  exact Int32.shiftRight_zero
theorem shl_0 (x : Int32) : x <<< ((0 : Int32) &&& 31) = x := by
  rw [show ((0 : Int32) &&& 31) = 0 by decide]
  exact Int32.shiftLeft_zero
theorem zeq_refl0 : zeq σ σ 0 lo := fun _ _ _ => ⟨rfl, rfl, rfl, rfl⟩
theorem zeq_tr {hi : Nat} (h : zeq σ τ lo hi) (g : zeq τ υ lo hi) : zeq σ υ lo hi := fun a a1 a2 => by
  have p := h a a1 a2
  have q := g a a1 a2
  exact ⟨q.1.trans p.1, q.2.1.trans p.2.1, q.2.2.1.trans p.2.2.1, q.2.2.2.trans p.2.2.2⟩
theorem zeq_uI (h : lo ≤ a) : zeq σ (zuI σ a j v) 0 lo := fun c _ c2 => ⟨rfl, zu_off _ _ _ (by omega), rfl, rfl⟩
theorem zeq_uR {r : Option Nat} (h : lo ≤ a) : zeq σ (zuR σ a j r) 0 lo := fun c _ c2 => ⟨rfl, rfl, zu_off _ _ _ (by omega), rfl⟩
theorem zeq_cT {f : Nat → Int32} {dp k : Nat} (h : lo ≤ a) : zeq σ (zcpT σ f a dp k) 0 lo := fun c _ c2 => ⟨rfl, if_neg (by omega), rfl, rfl⟩
theorem zeq_cp {x sp dp k : Nat} (h : lo ≤ a) : zeq σ (zcp σ x sp a dp k) 0 lo := fun c _ c2 => ⟨rfl, if_neg (by omega), rfl, rfl⟩
theorem zeq_nw {q : Nat × Nat} (h : lo ≤ N) : zeq σ (znew σ N q) 0 lo := fun c _ c2 => znew_o (by omega)
theorem zeq_rp {g : Nat → Int32} (h : lo ≤ a) : zeq σ (rp σ a g) 0 lo := fun c _ c2 => ⟨rfl, rp_ne (by omega), rfl, rfl⟩
theorem zfree_nw {q : Nat × Nat} (h : zfree σ N) : zfree (znew σ N q) (N + 1) := fun c hc => by
  rw [(znew_o (σ := σ) (N := N) (a := c) (q := q) (by omega)).1]
  exact h c (by omega)
theorem zfree_k (h : zfree σ N) (e : τ.1 = σ.1) : zfree τ N := fun c hc => by
  rw [e]
  exact h c hc
theorem zfree_le (h : zfree σ N) (e : N ≤ N2) : zfree σ N2 := fun c hc => h c (by omega)
theorem SBn_lt (h : SBn σ N lo b tx n) (hf : zfree σ N2) : SBn σ N2 lo b tx n := by
  obtain ⟨da, cap, h1, h2, h3, h4, h5, h6, h7⟩ := h
  refine ⟨da, cap, h1, h2, h3, h4, h5, Nat.not_le.mp (fun q => ?_), Nat.not_le.mp (fun q => ?_)⟩
  · have := h1.1
    rw [hf b q] at this
    cases this
  · have := h1.2.2.2.2.1
    rw [hf da q] at this
    cases this
theorem SBn_0 (h : SBn σ N lo b tx n) : SBn σ N lo b tx 0 := by
  obtain ⟨da, cap, h1, h2, h3⟩ := h
  exact ⟨da, cap, h1, Nat.zero_le _, h3⟩
theorem SBn_k (h : SBn σ N lo b tx n) : (σ.1 b).1 = 15 := by
  obtain ⟨da, cap, h1, h2, h3⟩ := h
  exact h1.1
theorem KSB_tr (h : KSB lo b tx n σ τ N) (g : KSB lo b s a τ υ N2) : KSB lo b s a σ υ N2 := ⟨g.1, zeq_tr h.2.1 g.2.1, g.2.2⟩
/-- more letters stand behind -/
theorem sb_grow (h : SBd σ b da cap tx) (k1 : τ.1 = σ.1) (k2 : τ.2.2.1 b 0 = σ.2.2.1 b 0) (k3 : τ.2.1 b 1 = σ.2.1 b 1) (k4 : τ.2.1 b 3 = zi ((tx.length + s.length : Nat) : Int)) (hl : tx.length + s.length ≤ cap) (k5 : ∀ i, i < tx.length → τ.2.1 da i = σ.2.1 da i) (k6 : ∀ i, i < s.length → τ.2.1 da (tx.length + i) = s.getD i 0) (k7 : ∀ i, i < cap → fits .byte (.int (τ.2.1 da i)) = true) : SBd τ b da cap (tx ++ s) := by
  obtain ⟨h1, h2, h3, h4, h5, h6, h7, h8⟩ := h
  refine ⟨by rw [k1]; exact h1, by rw [k2]; exact h2, by rw [k3]; exact h3, by rw [k4, List.length_append], by rw [k1]; exact h5, by rw [List.length_append]; exact hl, fun i hi => ?_, k7⟩
  rw [List.length_append] at hi
  by_cases q : i < tx.length
  · rw [k5 i q, h7 i q, List.getD_eq_getElem?_getD, List.getD_eq_getElem?_getD, List.getElem?_append_left q]
  · have := k6 (i - tx.length) (by omega)
    rw [show tx.length + (i - tx.length) = i by omega] at this
    rw [this, List.getD_eq_getElem?_getD, List.getD_eq_getElem?_getD, List.getElem?_append_right (by omega)]
theorem fb_128 {k : Nat} (h : k < 128) : fits .byte (.int (nI k)) = true := by
  have e : ∀ k : Fin 128, fits .byte (.int (nI k.val)) = true := by decide +kernel
  exact e ⟨k, h⟩
theorem b8_128 {k : Nat} (h : k < 128) : (nI k).toInt8.toInt32 = nI k := by
  have e : ∀ k : Fin 128, (nI k.val).toInt8.toInt32 = nI k.val := by decide +kernel
  exact e ⟨k, h⟩
theorem c16_128 {k : Nat} (h : k < 128) : ((nI k).toUInt32 % 65536).toInt32 = nI k := by
  have e : ∀ k : Fin 128, ((nI k.val).toUInt32 % 65536).toInt32 = nI k.val := by decide +kernel
  exact e ⟨k, h⟩
/-- a letter is put behind -/
theorem sb_push {k : Nat} (h : SBd σ b da cap tx) (hl : tx.length + 1 ≤ cap) (hk : k < 128) : SBd (zuI (zuI σ b 3 (zi ((tx.length + 1 : Nat) : Int))) da tx.length (nI k)) b da cap (tx ++ [nI k]) := by
  have hn := sb_ne h
  refine sb_grow h rfl rfl ?_ ?_ hl (fun i hi => ?_) (fun i hi => ?_) (fun i hi => ?_)
  · show zu (zu σ.2.1 b 3 _) da tx.length _ b 1 = _
    simp [zu, hn]
  · show zu (zu σ.2.1 b 3 _) da tx.length _ b 3 = _
    simp [zu, hn]
  · show zu (zu σ.2.1 b 3 _) da tx.length _ da i = _
    simp [zu, Ne.symm hn, Nat.ne_of_lt hi]
  · show zu (zu σ.2.1 b 3 _) da tx.length _ da (tx.length + i) = _
    have hi0 : i = 0 := by
      simp at hi
      exact hi
    subst hi0
    simp [zu]
  · show fits .byte (.int (zu (zu σ.2.1 b 3 _) da tx.length _ da i)) = true
    by_cases e : i = tx.length
    · simp only [zu, e, and_self, if_true]
      exact fb_128 hk
    · have : zu (zu σ.2.1 b 3 (zi ((tx.length + 1 : Nat) : Int))) da tx.length (nI k) da i = σ.2.1 da i := by
        simp [zu, Ne.symm hn, e]
      rw [this]
      exact h.2.2.2.2.2.2.2 i hi
/-- two letters, the second one first; their count is told at last -/
theorem sb_push2 {k k2 : Nat} (h : SBd σ b da cap tx) (hl : tx.length + 2 ≤ cap) (hk : k < 128) (hk2 : k2 < 128) : SBd (zuI (zuI (zuI σ da (tx.length + 1) (nI k2)) da tx.length (nI k)) b 3 (zi ((tx.length + 2 : Nat) : Int))) b da cap (tx ++ [nI k, nI k2]) := by
  have hn := sb_ne h
  refine sb_grow h rfl rfl ?_ ?_ hl (fun i hi => ?_) (fun i hi => ?_) (fun i hi => ?_)
  · show zu (zu (zu σ.2.1 da _ _) da tx.length _) b 3 _ b 1 = _
    simp [zu, hn]
  · show zu (zu (zu σ.2.1 da _ _) da tx.length _) b 3 _ b 3 = _
    simp [zu]
  · show zu (zu (zu σ.2.1 da _ _) da tx.length _) b 3 _ da i = _
    simp [zu, Ne.symm hn, Nat.ne_of_lt hi, show ¬ i = tx.length + 1 by omega]
  · show zu (zu (zu σ.2.1 da _ _) da tx.length _) b 3 _ da (tx.length + i) = _
    have hi0 : i = 0 ∨ i = 1 := by
      simp at hi
      omega
    rcases hi0 with rfl | rfl
    · simp [zu, Ne.symm hn]
    · simp [zu, Ne.symm hn]
  · show fits .byte (.int (zu (zu (zu σ.2.1 da _ _) da tx.length _) b 3 _ da i)) = true
    have e0 : zu (zu (zu σ.2.1 da (tx.length + 1) (nI k2)) da tx.length (nI k)) b 3 (zi ((tx.length + 2 : Nat) : Int)) da i = if i = tx.length then nI k else if i = tx.length + 1 then nI k2 else σ.2.1 da i := by
      simp [zu, Ne.symm hn]
    rw [e0]
    split
    · exact fb_128 hk
    · split
      · exact fb_128 hk2
      · exact h.2.2.2.2.2.2.2 i hi
/-- one letter, its count told at last -/
theorem sb_push1 {k : Nat} (h : SBd σ b da cap tx) (hl : tx.length + 1 ≤ cap) (hk : k < 128) : SBd (zuI (zuI σ da tx.length (nI k)) b 3 (zi ((tx.length + 1 : Nat) : Int))) b da cap (tx ++ [nI k]) := by
  have hn := sb_ne h
  have e : zuI (zuI σ da tx.length (nI k)) b 3 (zi ((tx.length + 1 : Nat) : Int)) = zuI (zuI σ b 3 (zi ((tx.length + 1 : Nat) : Int))) da tx.length (nI k) := by
    unfold zuI
    congr 1
    dsimp only
    congr 1
    funext x i
    unfold zu
    by_cases h1 : x = b ∧ i = 3
    · rw [if_pos h1, if_neg (fun q => hn (h1.1.symm.trans q.1)), if_pos h1]
    · rw [if_neg h1]
      by_cases h2 : x = da ∧ i = tx.length
      · rw [if_pos h2, if_pos h2]
      · rw [if_neg h2, if_neg h2, if_neg h1]
  rw [e]
  exact sb_push h hl hk
/-- a constant is put behind -/
theorem sb_text {f : Nat → Int32} (h : SBd σ b da cap tx) (hl : tx.length + s.length ≤ cap) (hf : ∀ i, i < s.length → f i = s.getD i 0) (hb : ∀ i, i < s.length → fits .byte (.int (s.getD i 0)) = true) : SBd (zuI (zcpT σ f da tx.length s.length) b 3 (zi ((tx.length + s.length : Nat) : Int))) b da cap (tx ++ s) := by
  have hn := sb_ne h
  have ed : ∀ i, (zuI (zcpT σ f da tx.length s.length) b 3 (zi ((tx.length + s.length : Nat) : Int))).2.1 da i = if tx.length ≤ i ∧ i < tx.length + s.length then f (0 + (i - tx.length)) else σ.2.1 da i := fun i => by
    show zu (fun q => if q = da then va_cpy f (σ.2.1 da) 0 tx.length s.length else σ.2.1 q) b 3 _ da i = _
    simp only [zu, if_neg (fun q : da = b ∧ i = 3 => hn q.1.symm), if_true]
    rfl
  have eb : ∀ i, i ≠ 3 → (zuI (zcpT σ f da tx.length s.length) b 3 (zi ((tx.length + s.length : Nat) : Int))).2.1 b i = σ.2.1 b i := fun i hi => by
    show zu (fun q => if q = da then va_cpy f (σ.2.1 da) 0 tx.length s.length else σ.2.1 q) b 3 _ b i = _
    simp [zu, hi, hn]
  refine sb_grow h rfl rfl (eb 1 (by decide)) ?_ hl (fun i hi => ?_) (fun i hi => ?_) (fun i hi => ?_)
  · show zu _ b 3 _ b 3 = _
    simp [zu]
  · rw [ed, if_neg (by omega)]
  · rw [ed, if_pos (by omega), show 0 + (tx.length + i - tx.length) = i by omega]
    exact hf i hi
  · rw [ed]
    split
    · rename_i q
      rw [show 0 + (i - tx.length) = i - tx.length by omega, hf _ (by omega)]
      exact hb _ (by omega)
    · exact h.2.2.2.2.2.2.2 i hi
/-- a longer row takes the letters over -/
theorem sb_move {cap2 : Nat} (h : SBd σ b da cap tx) (hN : b < N) (hd : da < N) (hc : cap ≤ cap2) : SBd (zuR (zcp (znew σ N (2, cap2)) da 0 N 0 cap) b 0 (some N)) b N cap2 tx := by
  obtain ⟨h1, h2, h3, h4, h5, h6, h7, h8⟩ := h
  have eb := znew_o (σ := σ) (N := N) (a := b) (q := (2, cap2)) (by omega)
  have ed := znew_o (σ := σ) (N := N) (a := da) (q := (2, cap2)) (by omega)
  have e0 : (znew σ N (2, cap2)).2.1 N = fun _ => 0 := if_pos rfl
  have eN : ∀ i, (zuR (zcp (znew σ N (2, cap2)) da 0 N 0 cap) b 0 (some N)).2.1 N i = if i < cap then σ.2.1 da i else 0 := fun i => by
    show (if N = N then va_cpy ((znew σ N (2, cap2)).2.1 da) ((znew σ N (2, cap2)).2.1 N) 0 0 cap else _) i = _
    rw [if_pos rfl, ed.2.1, e0]
    unfold va_cpy
    by_cases q : i < cap
    · rw [if_pos (by omega), if_pos q, show 0 + (i - 0) = i by omega]
    · rw [if_neg (by omega), if_neg q]
  have eB : (zuR (zcp (znew σ N (2, cap2)) da 0 N 0 cap) b 0 (some N)).2.1 b = σ.2.1 b := by
    show (if b = N then _ else (znew σ N (2, cap2)).2.1 b) = _
    rw [if_neg (by omega), eb.2.1]
  refine ⟨?_, ?_, ?_, ?_, ?_, by omega, fun i hi => ?_, fun i hi => ?_⟩
  · show ((znew σ N (2, cap2)).1 b).1 = 15
    rw [eb.1]
    exact h1
  · show zu _ b 0 (some N) b 0 = _
    simp [zu]
  · rw [eB]
    exact h3
  · rw [eB]
    exact h4
  · exact znew_k
  · rw [eN, if_pos (by omega)]
    exact h7 i hi
  · rw [eN]
    split
    · rename_i q
      exact h8 i q
    · decide
end SBD
