theorem qI_atF {P : qP} {M : qM} (hI : qI P M) {c n f : Nat} (hf : f = 30 ∨ f = 54) (hc : c < 24) (h : n ∈ M.2.1 (f + c)) : qat P (qmany M) c n := by
  have a1 := hI.1.2.2.1 (f + c) n (by omega) h
  unfold qch at a1
  rcases hf with rfl | rfl
  · rw [if_neg (by omega), if_pos (by omega), show 30 + c - 30 = c from by omega] at a1; exact a1
  · rw [if_neg (by omega), if_neg (by omega), show 54 + c - 54 = c from by omega] at a1; exact a1
/-- a key's parts of what is kept, of what is done -/
theorem qI_famF {P : qP} {M : qM} (hI : qI P M) {k f : Nat} (hk : k < 16) (hf : f = 30 ∧ M.1 67 = 1 ∨ f = 54) : (qf P k (M.2.1 (f + qco P k (qmany M))) ++ qf P k (M.2.1 (f + qci k (qmany M)))).Nodup := by
  obtain ⟨⟨hP, hN, hV, hFG, hZ, hOn, -⟩, -⟩ := hI
  have hq := qfrom_nodup P k 0
  rcases hf with ⟨rfl, h67⟩ | rfl
  · have hH := ((hOn h67).2.2 k hk).1
    rw [← hH] at hq
    unfold qpre qpri at hq
    simp only [List.append_assoc] at hq
    rw [List.nodup_append] at hq
    have h2 := hq.2.1
    rw [List.nodup_append] at h2
    have h3 := h2.2.1
    rw [List.nodup_append] at h3
    have h4 := h3.2.1
    rw [List.nodup_append] at h4 ⊢
    obtain ⟨n1, n2, n3⟩ := h4
    rw [List.nodup_append] at n2
    have n4 := n2.2.1
    rw [List.nodup_append] at n4
    refine ⟨n1, n4.1, fun a ha b hb => n3 a ha b ?_⟩
    simp only [List.mem_append]
    exact Or.inr (Or.inl hb)
  · have hG := (hFG k hk).2.1
    rw [← hG] at hq
    simp only [List.append_assoc] at hq
    rw [List.nodup_append] at hq
    have h2 := hq.2.1
    rw [List.nodup_append] at h2 ⊢
    obtain ⟨n1, n2, n3⟩ := h2
    rw [List.nodup_append] at n2
    refine ⟨n1, n2.1, fun a ha b hb => n3 a ha b ?_⟩
    simp only [List.mem_append]
    exact Or.inl hb
theorem qI_oneF {P : qP} {M : qM} (hI : qI P M) {c d n f : Nat} (hf : f = 30 ∧ M.1 67 = 1 ∨ f = 54) (hc : c < 24) (hd : d < 24) (h1 : n ∈ M.2.1 (f + c)) (h2 : n ∈ M.2.1 (f + d)) : c = d := by
  have hf2 : f = 30 ∨ f = 54 := by omega
  have a1 := qI_atF hI hf2 hc h1
  have a2 := qI_atF hI hf2 hd h2
  have hn := qI_famF hI (qkey_lt (P := P) a1.1) hf
  rw [List.nodup_append] at hn
  have f1 := (qf_mem (P := P) (k := qkey P n)).mpr ⟨h1, rfl⟩
  have f2 := (qf_mem (P := P) (k := qkey P n)).mpr ⟨h2, rfl⟩
  rcases qat_ch a1 hc with e1 | e1 <;> rcases qat_ch a2 hd with e2 | e2
  · omega
  · rw [e1] at f1; rw [e2] at f2; exact absurd rfl (hn.2.2 n f2 n f1)
  · rw [e1] at f1; rw [e2] at f2; exact absurd rfl (hn.2.2 n f1 n f2)
  · omega
theorem qI_nodupF {P : qP} {M : qM} (hI : qI P M) {c f : Nat} (hf : f = 30 ∧ M.1 67 = 1 ∨ f = 54) (hc : c < 24) : (M.2.1 (f + c)).Nodup := by
  refine qI_nodupL (P := P) (fun n hn => ?_)
  have a1 := qI_atF hI (by omega) hc hn
  have h := qI_famF hI (qkey_lt (P := P) a1.1) hf
  rw [List.nodup_append] at h
  rcases qat_ch a1 hc with e | e
  · rw [e]; exact h.2.1
  · rw [e]; exact h.1
theorem qI_lenF {P : qP} {M : qM} (hI : qI P M) {c f : Nat} (hf : f = 30 ∧ M.1 67 = 1 ∨ f = 54) (hc : c < 24) : (M.2.1 (f + c)).length ≤ 800 ∧ (c < 16 → (M.2.1 (f + c)).length ≤ 200) := by
  have hn := qI_nodupF hI hf hc
  have hf2 : f = 30 ∨ f = 54 := by omega
  refine ⟨q_len (b := 0) hn (fun n h => by have := (qI_atF hI hf2 hc h).1; omega), fun h16 => q_len (b := 200 * (c % 4)) hn (fun n h => ?_)⟩
  have a1 := qI_atF hI hf2 hc h
  have := a1.2.1 h16
  have := a1.1
  omega
theorem qI_start {P : qP} (hP : qPok P) {m room every over : Int} {lag : Nat → Int} (hm : 1 ≤ m ∧ m ≤ 4) (hr : 1 ≤ room ∧ room ≤ 9) (he : 0 ≤ every ∧ every ≤ 99) (ho : over = 0 ∨ over = 1) (hl : ∀ s, s < 4 → 0 ≤ lag s ∧ lag s ≤ 9) : qI P (qstart m room every over lag) := by
  have hS : ∀ k, 13 ≤ k → (qstart m room every over lag).1 k = 0 := by
    intro k hk
    unfold qstart
    dsimp only
    rw [if_neg (by omega), if_neg (by omega), if_neg (by omega), if_neg (by omega), if_neg (by omega)]
  have hN : qN P (qstart m room every over lag) := by
    refine ⟨hm, hr, he, ho, fun s hs => ?_, fun s hs => ?_, fun s hs => ?_, Or.inl (hS _ (by omega)), Or.inl (hS _ (by omega)), Or.inl (hS _ (by omega)), Or.inl (hS _ (by omega)), fun r hr => ?_, fun i hi => ?_, fun c hc => Or.inl (hS _ (by omega))⟩
    · have : (qstart m room every over lag).1 (9 + s) = lag s := by
        unfold qstart
        dsimp only
        rw [if_neg (by omega), if_neg (by omega), if_neg (by omega), if_neg (by omega), if_pos (by omega), show 9 + s - 9 = s from by omega]
      rw [this]; exact hl s hs
    · rw [hS _ (by omega)]; omega
    · rw [hS _ (by omega)]; omega
    · rw [hS _ (by omega)]; omega
    · rw [hS _ (by omega)]; omega
  refine ⟨⟨hP, hN, fun c n _ hn => ?_, fun k hk => ⟨⟨?_, ?_⟩, ⟨?_, ?_⟩⟩, fun _ => ⟨fun c hc => ⟨rfl, hS _ (by omega)⟩, fun _ _ _ => rfl⟩, fun h => ?_, fun r x _ _ _ => ⟨rfl, hS _ (by omega)⟩, fun _ => ⟨fun j _ => hS _ (by omega), fun _ _ => rfl⟩, fun h => ?_⟩, fun h => ?_⟩
  · cases hn
  · rw [hS _ (by omega)]; rfl
  · rw [hS _ (by omega)]; rfl
  · rw [hS _ (by omega)]
    unfold qbase
    rw [if_neg (fun h => by have := h.1; rw [hS _ (by omega)] at this; cases this)]
    rfl
  · rw [hS _ (by omega)]
    unfold qbase
    rw [if_neg (fun h => by have := h.1; rw [hS _ (by omega)] at this; cases this)]
    rfl
  · rw [hS _ (by omega)] at h; cases h
  · rw [hS _ (by omega)] at h; cases h
  · rw [hS _ (by omega)] at h; cases h
