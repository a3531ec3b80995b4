/-! What follows of the order: each record is in one list, once; a channel's length; the sum behind a record. -/
/-- the three families of lists: 0 lists, 1 kept, 2 done; the five places of a key -/
theorem q_sub3 {a b c : List Nat} {d : List Nat} (h : (a ++ b ++ c) = d) (hd : d.Nodup) : a.Nodup ∧ b.Nodup := by
  subst h
  rw [List.nodup_append] at hd
  have := List.nodup_append.mp hd.1
  exact ⟨this.1, this.2.1⟩
theorem qat_ch {P : qP} {m c n : Nat} (h : qat P m c n) (hc : c < 24) : c = qci (qkey P n) m ∨ c = qco P (qkey P n) m := by
  have hkm := qkey_mod (P := P) h.1
  have e1 := qci_eq (qkey P n) m
  have e2 := qco_eq P (qkey P n) m
  by_cases e : c < 16
  · exact Or.inl (by have := h.2.1 e; omega)
  · exact Or.inr (by have := h.2.2.1 (by omega) hc; omega)
/-- each record is in one of the lists at most -/
theorem qI_one {P : qP} {M : qM} (hI : qI P M) {c d n : Nat} (hc : c < 30) (hd : d < 30) (h1 : n ∈ M.2.1 c) (h2 : n ∈ M.2.1 d) : c = d := by
  obtain ⟨⟨hP, hN, hV, hFG, -⟩, -⟩ := hI
  have a1 := hV c n (by omega) h1
  have a2 := hV d n (by omega) h2
  unfold qch at a1 a2
  rw [if_pos hc] at a1
  rw [if_pos hd] at a2
  have hk16 := qkey_lt (P := P) a1.1
  obtain ⟨k1, k2, k3, k4, k5, k6⟩ := qix hP hN (qkey P n)
  have hF := (hFG _ hk16).1.1
  have hnd := qfrom_nodup P (qkey P n) 0
  rw [← hF] at hnd
  unfold qseq at hnd
  simp only [List.append_assoc] at hnd
  have f1 : ∀ e, n ∈ M.2.1 e → n ∈ qf P (qkey P n) (M.2.1 e) := fun e h => qf_mem.mpr ⟨h, rfl⟩
  -- its place among the five
  have place : ∀ e, e < 30 → qat P (qmany M) e n → e = 28 + qsk P (qkey P n) ∨ e = 26 + qsk P (qkey P n) ∨ e = 24 + qsk P (qkey P n) ∨ e = qco P (qkey P n) (qmany M) ∨ e = qci (qkey P n) (qmany M) := by
    intro e he ha
    by_cases h : e < 24
    · rcases qat_ch ha h with h | h
      · exact Or.inr (Or.inr (Or.inr (Or.inr h)))
      · exact Or.inr (Or.inr (Or.inr (Or.inl h)))
    · have := ha.2.2.2 (by omega)
      omega
  have b1 := f1 c h1
  have b2 := f1 d h2
  have p1 := place c hc a1
  have p2 := place d hd a2
  clear place a1 a2 h1 h2 hc hd
  rw [List.nodup_append] at hnd
  obtain ⟨-, n2, n3⟩ := hnd
  rw [List.nodup_append] at n2
  obtain ⟨-, m2, m3⟩ := n2
  rw [List.nodup_append] at m2
  obtain ⟨-, l2, l3⟩ := m2
  rw [List.nodup_append] at l2
  obtain ⟨-, j2, j3⟩ := l2
  simp only [List.mem_append] at n3 m3 l3 j3
  rcases p1 with rfl | rfl | rfl | rfl | rfl <;> rcases p2 with rfl | rfl | rfl | rfl | rfl <;> first | rfl | (exfalso; first
    | exact n3 n b1 n (Or.inl b2) rfl | exact n3 n b1 n (Or.inr (Or.inl b2)) rfl | exact n3 n b1 n (Or.inr (Or.inr (Or.inl b2))) rfl | exact n3 n b1 n (Or.inr (Or.inr (Or.inr (Or.inl b2)))) rfl
    | exact n3 n b2 n (Or.inl b1) rfl | exact n3 n b2 n (Or.inr (Or.inl b1)) rfl | exact n3 n b2 n (Or.inr (Or.inr (Or.inl b1))) rfl | exact n3 n b2 n (Or.inr (Or.inr (Or.inr (Or.inl b1)))) rfl
    | exact m3 n b1 n (Or.inl b2) rfl | exact m3 n b1 n (Or.inr (Or.inl b2)) rfl | exact m3 n b1 n (Or.inr (Or.inr (Or.inl b2))) rfl
    | exact m3 n b2 n (Or.inl b1) rfl | exact m3 n b2 n (Or.inr (Or.inl b1)) rfl | exact m3 n b2 n (Or.inr (Or.inr (Or.inl b1))) rfl
    | exact l3 n b1 n (Or.inl b2) rfl | exact l3 n b1 n (Or.inr (Or.inl b2)) rfl
    | exact l3 n b2 n (Or.inl b1) rfl | exact l3 n b2 n (Or.inr (Or.inl b1)) rfl
    | exact j3 n b1 n (Or.inl b2) rfl
    | exact j3 n b2 n (Or.inl b1) rfl)
/-- a list of records that are where they are to be holds each once if each key's part does -/
theorem qI_nodupL {P : qP} {l : List Nat} (h : ∀ n, n ∈ l → (qf P (qkey P n) l).Nodup) : l.Nodup := by
  refine q_nodup_of (P := P) (fun k => ?_)
  by_cases e : ∃ n, n ∈ l ∧ qkey P n = k
  · obtain ⟨n, hn, rfl⟩ := e; exact h n hn
  · rw [qf_none (fun n hn hk => e ⟨n, hn, hk⟩)]; exact List.nodup_nil
theorem qI_nodup {P : qP} {M : qM} (hI : qI P M) {c : Nat} (hc : c < 30) : (M.2.1 c).Nodup := by
  refine qI_nodupL (P := P) (fun n hn => ?_)
  obtain ⟨⟨hP, hN, hV, hFG, -⟩, -⟩ := hI
  have a1 := hV c n (by omega) hn
  unfold qch at a1
  rw [if_pos hc] at a1
  have hk16 := qkey_lt (P := P) a1.1
  obtain ⟨k1, k2, k3, k4, k5, k6⟩ := qix hP hN (qkey P n)
  have hF := (hFG _ hk16).1.1
  have hnd := qfrom_nodup P (qkey P n) 0
  rw [← hF] at hnd
  unfold qseq at hnd
  simp only [List.append_assoc] at hnd
  rw [List.nodup_append] at hnd
  obtain ⟨n1, n2, -⟩ := hnd
  rw [List.nodup_append] at n2
  obtain ⟨m1, m2, -⟩ := n2
  rw [List.nodup_append] at m2
  obtain ⟨l1, l2, -⟩ := m2
  rw [List.nodup_append] at l2
  obtain ⟨j1, j2, -⟩ := l2
  rw [List.nodup_append] at j2
  by_cases h : c < 24
  · rcases qat_ch a1 h with e | e
    · rw [e]; exact j2.1
    · rw [e]; exact j1
  · have := a1.2.2.2 (by omega)
    have : c = 28 + qsk P (qkey P n) ∨ c = 26 + qsk P (qkey P n) ∨ c = 24 + qsk P (qkey P n) := by omega
    rcases this with e | e | e
    · rw [e]; exact n1
    · rw [e]; exact m1
    · rw [e]; exact l1
/-- a record in a list is one that its source has -/
theorem qI_rec {P : qP} {M : qM} (hI : qI P M) {c n : Nat} (hc : c < 30) (h : n ∈ M.2.1 c) : n < 800 ∧ n % 200 < P.2.2.1 (n / 200) ∧ n / 200 < P.1 := by
  obtain ⟨⟨hP, hN, hV, hFG, -⟩, -⟩ := hI
  have a1 := hV c n (by omega) h
  unfold qch at a1
  rw [if_pos hc] at a1
  have hk16 := qkey_lt (P := P) a1.1
  have hF := (hFG _ hk16).1.1
  have hf : n ∈ qf P (qkey P n) (M.2.1 c) := qf_mem.mpr ⟨h, rfl⟩
  have hm : n ∈ qfrom P (qkey P n) 0 := by
    rw [← hF]
    unfold qseq
    simp only [List.mem_append]
    by_cases h24 : c < 24
    · rcases qat_ch a1 h24 with e | e
      · rw [e] at hf; exact Or.inl (Or.inr hf)
      · rw [e] at hf; exact Or.inl (Or.inl (Or.inr hf))
    · have := a1.2.2.2 (by omega)
      have : c = 28 + qsk P (qkey P n) ∨ c = 26 + qsk P (qkey P n) ∨ c = 24 + qsk P (qkey P n) := by omega
      rcases this with e | e | e
      · rw [e] at hf; exact Or.inl (Or.inl (Or.inl (Or.inl (Or.inl hf))))
      · rw [e] at hf; exact Or.inl (Or.inl (Or.inl (Or.inl (Or.inr hf))))
      · rw [e] at hf; exact Or.inl (Or.inl (Or.inl (Or.inr hf)))
  obtain ⟨⟨i, -, hi, e⟩, -⟩ := qfrom_mem.mp hm
  have hkm := qkey_mod (P := P) a1.1
  have := hP.2.2.2.2.1 (qkey P n % 4)
  have e1 : n / 200 = qkey P n % 4 := by omega
  refine ⟨a1.1, by rw [e1]; omega, ?_⟩
  apply Decidable.byContradiction
  intro h9
  have := hP.2.2.2.2.2.1 (n / 200) (by omega)
  rw [e1] at this
  omega
/-- a list without repetition of numbers below w is no longer than w -/
theorem q_len {l : List Nat} {b w : Nat} (h : l.Nodup) (hm : ∀ n, n ∈ l → b ≤ n ∧ n < b + w) : l.length ≤ w := by
  have h2 : l.length ≤ (List.range' b w).length := List.Nodup.length_le_of_subset h (fun n hn => by
    rw [List.mem_range'_1]; exact hm n hn)
  rwa [List.length_range'] at h2
theorem qI_len {P : qP} {M : qM} (hI : qI P M) {c : Nat} (hc : c < 30) : (M.2.1 c).length ≤ 800 ∧ (c < 16 → (M.2.1 c).length ≤ 200) := by
  have hn := qI_nodup hI hc
  refine ⟨q_len (b := 0) hn (fun n h => by have := (qI_rec hI hc h).1; omega), fun h16 => q_len (b := 200 * (c % 4)) hn (fun n h => ?_)⟩
  have a1 := hI.1.2.2.1 c n (by omega) h
  unfold qch at a1
  rw [if_pos hc] at a1
  have := a1.2.1 h16
  have := a1.1
  omega
/-- what a worker's sum comes to is the sum behind the record -/
theorem qI_res {P : qP} {M : qM} (hI : qI P M) {c n : Nat} {rest : List Nat} (hc : c < 16) (h : M.2.1 c = n :: rest) : M.1 (17 + qkey P n) + qval P n = qres P n := by
  obtain ⟨⟨hP, hN, hV, hFG, -⟩, -⟩ := hI
  have a1 := hV c n (by omega) (by rw [h]; exact List.mem_cons_self)
  unfold qch at a1
  rw [if_pos (by omega)] at a1
  have hk16 := qkey_lt (P := P) a1.1
  obtain ⟨hF, hs⟩ := (hFG _ hk16).1
  have e : c = qci (qkey P n) (qmany M) := by
    rcases qat_ch a1 (by omega) with e | e
    · exact e
    · have := qco_eq P (qkey P n) (qmany M); omega
  rw [← e, h, qf_cons, qf_pos rfl] at hF
  have := qres_eq hP (pre := qseq P M (qkey P n)) (post := qf P (qkey P n) rest ++ qfrom P (qkey P n) (M.1 (13 + qkey P n % 4)).toNat) (n := n) (by
    rw [← hF]
    simp only [List.append_assoc, List.cons_append, List.nil_append])
  rw [this, hs]
  omega
theorem qres_lt {P : qP} {n : Nat} (hn : n < 800) : qres P n ≤ 10000 := by
  unfold qres qsum
  have h1 : ∀ l : List Nat, (l.map (qval P)).sum ≤ 50 * l.length := by
    intro l
    induction l with
    | nil => simp
    | cons a t ih =>
      simp only [List.map_cons, List.sum_cons, List.length_cons]
      have : qval P a ≤ 50 := by unfold qval; omega
      omega
  have h2 : (qupto P (qkey P n) (n % 200 + 1)).length ≤ n % 200 + 1 := by
    unfold qupto
    refine Nat.le_trans (List.length_filter_le _ _) ?_
    simp
  have := h1 (qupto P (qkey P n) (n % 200 + 1))
  omega
