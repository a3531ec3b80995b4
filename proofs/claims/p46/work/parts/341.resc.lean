theorem qf_flat {P : qP} {k : Nat} (D : Nat → List Nat) (i : Nat) : ∀ (l : List Nat), i ∈ l → l.Nodup → (∀ t, t ∈ l → t ≠ i → qf P k (D t) = []) → qf P k (l.flatMap D) = qf P k (D i)
  | [], h, _, _ => absurd h List.not_mem_nil
  | t :: l, h, hn, h0 => by
    rw [List.flatMap_cons, qf_app]
    rw [List.nodup_cons] at hn
    by_cases e : t = i
    · subst e
      have : qf P k (l.flatMap D) = [] := by
        have h0' : ∀ s, s ∈ l → qf P k (D s) = [] := fun s hs => h0 s (List.mem_cons_of_mem _ hs) (fun e => hn.1 (e ▸ hs))
        clear h h0 hn
        induction l with
        | nil => rfl
        | cons s l ih => rw [List.flatMap_cons, qf_app, h0' s List.mem_cons_self, ih (fun u hu => h0' u (List.mem_cons_of_mem _ hu))]; rfl
      rw [this, List.append_nil]
    · rw [h0 t List.mem_cons_self e, List.nil_append]
      refine qf_flat D i l ?_ hn.2 (fun s hs => h0 s (List.mem_cons_of_mem _ hs))
      rcases List.mem_cons.mp h with h | h
      · exact absurd h.symm e
      · exact h
theorem qf_filt {P : qP} {k : Nat} (g : Nat → Bool) (l : List Nat) (h : ∀ n, qkey P n = k → g n = true) : qf P k (l.filter g) = qf P k l := by
  unfold qf
  rw [List.filter_filter]
  congr 1
  funext n
  by_cases e : qkey P n = k
  · simp [e, h n e]
  · simp [e]
theorem qf_none {P : qP} {k : Nat} {l : List Nat} (h : ∀ n, n ∈ l → qkey P n ≠ k) : qf P k l = [] := by
  unfold qf
  rw [List.filter_eq_nil_iff]
  intro n hn
  simp [h n hn]
theorem qpart_mem {P : qP} {m c n : Nat} {D : Nat → List Nat} (hP : qPok P) (hc : c < 24) (hD : ∀ d n, d < 24 → n ∈ D d → ∃ m', (1 ≤ m' ∧ m' ≤ 4) ∧ qat P m' d n) (h : n ∈ qpart P m D c) : qat P m c n := by
  have hnk := hP.2.2.2.1
  unfold qpart at h
  by_cases e : c < 16
  · rw [if_pos e] at h
    by_cases e2 : c % 4 < P.1
    · rw [if_pos e2, List.mem_filter, List.mem_flatMap] at h
      obtain ⟨⟨i, hi, hn⟩, ho⟩ := h
      rw [List.mem_range] at hi
      obtain ⟨m', hm', h1, h2, h3, h4⟩ := hD _ n (by omega) hn
      have ho : qown (qkey P n) m = c / 4 := by simpa using ho
      have := h2 (by omega)
      have h2' : n / 200 = c % 4 := by
        have hkm := qkey_mod (P := P) h1
        omega
      exact ⟨h1, fun _ => by omega, fun _ => by omega, fun _ => by omega⟩
    · rw [if_neg e2] at h; cases h
  · rw [if_neg e] at h
    by_cases e2 : c / 4 - 4 < P.2.1
    · rw [if_pos e2, List.mem_filter, List.mem_flatMap] at h
      obtain ⟨⟨i, hi, hn⟩, ho⟩ := h
      rw [List.mem_range] at hi
      obtain ⟨m', hm', h1, h2, h3, h4⟩ := hD _ n (by omega) hn
      have ho : qown (qkey P n) m = c % 4 := by simpa using ho
      have h3 := h3 (by omega) (by omega)
      have hsk := qsk_lt (P := P) (k := qkey P n) hP.2.2.1
      have := qown_lt (k := qkey P n) hm'.1
      exact ⟨h1, fun _ => by omega, fun _ _ => by omega, fun _ => by omega⟩
    · rw [if_neg e2] at h; cases h
theorem qpart_D {P : qP} {M : qM} {m k : Nat} (hI : qI P M) (hm : 1 ≤ m ∧ m ≤ 4) :
    qf P k (qpart P m (fun d => M.2.1 (54 + d)) (qco P k m)) = qf P k (M.2.1 (54 + qco P k (qmany M))) ∧ qf P k (qpart P m (fun d => M.2.1 (54 + d)) (qci k m)) = qf P k (M.2.1 (54 + qci k (qmany M))) := by
  obtain ⟨⟨hP, hN, hV, hFG, hZ, hOn, hX, hC, hC2⟩, hW⟩ := hI
  have hnk := hP.2.2.2.1
  obtain ⟨k1, k2, k3, k4, k5, k6⟩ := qix hP hN k
  have o1 := qown_lt (k := k) hm.1
  have hat : ∀ d n, d < 24 → n ∈ M.2.1 (54 + d) → qat P (qmany M) d n := by
    intro d n hd hn
    have := hV (54 + d) n (by omega) hn
    unfold qch at this
    rw [if_neg (by omega), if_neg (by omega), show 54 + d - 54 = d from by omega] at this
    exact this
  refine ⟨?_, ?_⟩
  · have e := qco_eq P k m
    have c4 : qco P k m / 4 - 4 = qsk P k := by omega
    have cm : qco P k m % 4 = qown k m := by omega
    unfold qpart
    rw [if_neg (by omega), c4, if_pos k1, cm, qf_filt _ _ (fun n hn => by simp [hn]), show 4 * (qco P k m / 4) = 16 + 4 * qsk P k from by omega]
    rw [qf_flat (fun i => M.2.1 (54 + (16 + 4 * qsk P k + i))) (qown k (qmany M)) (List.range 4) (List.mem_range.mpr k4) List.nodup_range ?_]
    · intro t ht hne
      rw [List.mem_range] at ht
      refine qf_none (fun n hn hkn => ?_)
      have h := (hat _ n (by omega) hn).2.2.1 (by omega) (by omega)
      rw [hkn] at h
      omega
  · have e := qci_eq k m
    have c4 : qci k m % 4 = k % 4 := by omega
    have cm : qci k m / 4 = qown k m := by omega
    unfold qpart
    rw [if_pos (by omega), c4, cm]
    by_cases hs : k % 4 < P.1
    · rw [if_pos hs, qf_filt _ _ (fun n hn => by simp [hn])]
      rw [qf_flat (fun i => M.2.1 (54 + (4 * i + k % 4))) (qown k (qmany M)) (List.range 4) (List.mem_range.mpr k4) List.nodup_range ?_]
      · intro t ht hne
        rw [List.mem_range] at ht
        refine qf_none (fun n hn hkn => ?_)
        have h := (hat _ n (by omega) hn).2.1 (by omega)
        rw [hkn] at h
        have : n / 200 < 4 := by have := (hat _ n (by omega) hn).1; omega
        omega
    · rw [if_neg hs]
      refine (qf_none (fun n hn hkn => ?_)).symm
      have h1 := hat _ n (by omega) hn
      have hk16 := qkey_lt (P := P) h1.1
      have hG := (hFG k (by omega)).2.1
      have hn2 : n ∈ qfrom P k 0 := by
        rw [← hG]
        simp only [List.mem_append]
        exact Or.inl (Or.inr (qf_mem.mpr ⟨hn, hkn⟩))
      rw [qfrom_end (by rw [hP.2.2.2.2.2.1 _ (by omega)]; omega)] at hn2
      cases hn2
theorem qI_rescale {P : qP} {M : qM} {m : Nat} (hI : qI P M) (hm : 1 ≤ m ∧ m ≤ 4) : qI P (qrescale P m M) := by
  have hI1 := qI_fail hI
  have hno : ¬ qhid (qfail P M) := by
    have := (qI_show0 hI).2
    unfold qhid at this ⊢
    exact this
  have hS : ∀ k, k ≠ 1 → (qrescale P m M).1 k = (qfail P M).1 k := fun k h => qu_ne h
  have hD : ∀ c, c < 24 → (qrescale P m M).2.1 (54 + c) = qpart P m (fun d => (qfail P M).2.1 (54 + d)) c := by
    intro c hc
    unfold qrescale
    dsimp only
    rw [if_neg (by omega), if_pos (by omega), show 54 + c - 54 = c from by omega]
  have hLo : ∀ c, 24 ≤ c → c < 54 → (qrescale P m M).2.1 c = (qfail P M).2.1 c := by
    intro c h1 h2
    unfold qrescale
    dsimp only
    rw [if_neg (by omega), if_neg (by omega)]
  refine qI_stand hI1 hno m hm (show qu (qfail P M).1 1 (m : Int) 1 = m from qu_at _ _ _) (fun k hk => hS k (by omega)) (fun j hj => ?_) (fun k h1 h2 => ?_) rfl (fun _ => rfl) (fun c hc => ?_) (fun c h1 h2 => ?_) (fun c h1 h2 => hLo c (by omega) (by omega)) (fun c h1 h2 => ?_) (fun c n hc hn => ?_) (fun k hk => ?_) (fun h c hc => ?_)
  · rw [hS _ (by omega)]
    unfold qfail
    dsimp only
    rw [if_neg (by omega), if_neg (by omega), if_pos (by omega), show 13 + j + 111 = 124 + j from by omega, if_neg (by omega), if_neg (by omega), if_neg (by omega), if_neg (by omega)]
  · rw [hS _ (by omega)]
    unfold qfail
    dsimp only
    rw [if_neg (by omega), if_neg (by omega), if_neg (by omega), if_pos (by omega)]
  · rw [hD c hc]
    unfold qrescale
    dsimp only
    rw [if_pos hc]
  · rw [hLo c (by omega) (by omega)]
    unfold qfail
    dsimp only
    rw [if_neg (by omega), if_pos h2]
  · rw [hLo c (by omega) (by omega)]
    unfold qfail
    dsimp only
    rw [if_neg (by omega), if_neg (by omega), if_pos (by omega)]
  · rw [hD c hc] at hn
    refine qpart_mem hI.1.1 hc (fun d n hd hn => ?_) hn
    refine ⟨qmany (qfail P M), qN_many hI1.1.2.1, ?_⟩
    have := hI1.1.2.2.1 (54 + d) n (by omega) hn
    unfold qch at this
    rw [if_neg (by omega), if_neg (by omega), show 54 + d - 54 = d from by omega] at this
    exact this
  · have o1 := qown_lt (k := k) hm.1
    have k12 := qix hI.1.1 hI1.1.2.1 k
    have := qpart_D (k := k) hI1 hm
    rw [hD _ (by have := qco_eq P k m; omega), hD _ (by have := qci_eq k m; omega)]
    exact this
  · rw [hS _ (by omega)] at h
    have h0 := (hI1.1.2.2.2.2.2.2.2.1 h).2
    rw [hD c hc]
    unfold qpart
    split
    · split
      · rw [List.filter_eq_nil_iff]
        intro n hn
        rw [List.mem_flatMap] at hn
        obtain ⟨i, hi, hn⟩ := hn
        rw [List.mem_range] at hi
        dsimp only at hn; rw [h0 _ (by omega)] at hn; cases hn
      · rfl
    · split
      · rw [List.filter_eq_nil_iff]
        intro n hn
        rw [List.mem_flatMap] at hn
        obtain ⟨i, hi, hn⟩ := hn
        rw [List.mem_range] at hi
        dsimp only at hn; rw [h0 _ (by omega)] at hn; cases hn
      · rfl
