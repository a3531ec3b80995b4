/-! What is kept is dealt out anew: the lines of a source, of a sink. -/
theorem qI_recF {P : qP} {M : qM} (hI : qI P M) {c n : Nat} (hc : c < 24) (h : n ∈ M.2.1 (54 + c)) : n < 800 ∧ n % 200 < P.2.2.1 (n / 200) ∧ n / 200 < P.1 := by
  have a1 := qI_atF hI (Or.inr rfl) hc h
  obtain ⟨⟨hP, hN, hV, hFG, -⟩, -⟩ := hI
  have hk16 := qkey_lt (P := P) a1.1
  have hG := (hFG _ hk16).2.1
  have hf : n ∈ qf P (qkey P n) (M.2.1 (54 + c)) := qf_mem.mpr ⟨h, rfl⟩
  have hm : n ∈ qfrom P (qkey P n) 0 := by
    rw [← hG]
    simp only [List.mem_append]
    rcases qat_ch a1 hc with e | e
    · rw [e] at hf; exact Or.inl (Or.inr hf)
    · rw [e] at hf; exact Or.inl (Or.inl (Or.inr hf))
  obtain ⟨⟨i, -, hi, e⟩, -⟩ := qfrom_mem.mp hm
  have hmod := qkey_mod (P := P) a1.1
  have h200 := hP.2.2.2.2.1 (qkey P n % 4)
  have h0 := hP.2.2.2.2.2.1 (qkey P n % 4)
  have e1 : n % 200 = i := by omega
  refine ⟨a1.1, by rw [e1, ← hmod]; exact hi, ?_⟩
  rw [← hmod]
  exact Nat.lt_of_not_le (fun q => by have := h0 q; omega)
section KG
variable {σ : zS} {f b u o : Nat} {V : Nat → Nat → Int32} {L : Nat → List Nat}
/-- what holds when some lists of a line lie in the spare list -/
theorem k_gather {step : zS × Int32 → Option ((zS × Int32) ⊕ zS)} {ch : Nat → Nat} {m : Nat} (h : fsh σ f) (ho : fo o) (hL : LLD V o L) (hm : m ≤ 4) (hch : ∀ i, i < 4 → ch i < 24) (hinj : ∀ i j, i < 4 → j < 4 → ch i = ch j → i = j) (h24 : L 24 = [])
    (hstep : ∀ i W, i < m → step (fput σ f W b u, zi (i : Int)) = (fX3_moveAll (fput σ f W b u) (f + o) (zi (ch i)) (zi (24 : Nat))).bind fun c => some (.inl (c, zi (i : Int) + zi 1)))
    (hend : ∀ W, step (fput σ f W b u, zi (m : Int)) = some (.inr (fput σ f W b u))) :
    ∃ W L2, zloop step zfuel (fput σ f V b u, zi 0) = some (fput σ f W b u) ∧ LLD W o L2 ∧ L2 24 = (List.range m).flatMap (fun i => L (ch i)) ∧ (∀ i, i < m → L2 (ch i) = []) ∧ (∀ c, c ≠ 24 → (∀ i, i < m → c ≠ ch i) → L2 c = L c) ∧ ∀ p, (p ≤ o ∨ o + 4 < p) → W p = V p := by
  obtain ⟨W, e, L2, hW⟩ := cfor (σ := σ) (f := f) (b := b) (u := u) (step := step) 0 m (fun k W => ∃ L2, LLD W o L2 ∧ L2 24 = (List.range k).flatMap (fun i => L (ch i)) ∧ (∀ i, i < k → L2 (ch i) = []) ∧ (∀ c, c ≠ 24 → (∀ i, i < k → c ≠ ch i) → L2 c = L c) ∧ ∀ p, (p ≤ o ∨ o + 4 < p) → W p = V p)
    (fun k W _ hk hW => by
      obtain ⟨L2, a1, a2, a3, a4, a5⟩ := hW
      have hc := hch k (by omega)
      obtain ⟨W2, e2, hW2, fW2⟩ := d_moves (σ := σ) (f := f) (b := b) (u := u) (V := W) (l := ch k) (m := 24) h ho a1 (by omega) (by omega) (by omega)
      have hk2 : L2 (ch k) = L (ch k) := a4 (ch k) (by omega) (fun i hi q => by have := hinj k i (by omega) (by omega) q; omega)
      refine ⟨W2, ?_, _, hW2, ?_, fun i hi => ?_, fun c c1 c2 => ?_, fun p hp => ?_⟩
      · rw [hstep k W hk, e2, Option.bind_some]
      · rw [qu_ne (by omega), qu_at, a2, hk2, List.range_succ, List.flatMap_append]
        simp
      · by_cases q : i = k
        · rw [q, qu_at]
        · have hci := hch i (by omega)
          have : ch i ≠ ch k := fun q2 => q (hinj i k (by omega) (by omega) q2)
          rw [qu_ne this, qu_ne (by omega)]
          exact a3 i (by omega)
      · rw [qu_ne (c2 k (by omega)), qu_ne c1]
        exact a4 c c1 (fun i hi => c2 i (by omega))
      · rw [fW2 p hp]; exact a5 p hp)
    (fun W _ => hend W)
    (by omega) (by omega) (V := V) (x := 0) rfl ⟨L, hL, by rw [h24]; rfl, fun i hi => absurd hi (Nat.not_lt_zero _), fun _ _ _ => rfl, fun _ _ => rfl⟩
  exact ⟨W, L2, e, hW⟩
theorem k_deal {step : zS × Int32 → Option ((zS × Int32) ⊕ zS)} {ch own : Nat → Nat} {A : List Nat} (h : fsh σ f) (ho : fo o) (hL : LLD V o L) (hA : L 24 = A) (hch : ∀ i, i < 4 → ch i < 24) (hinj : ∀ i j, i < 4 → j < 4 → ch i = ch j → i = j) (h0 : ∀ i, i < 4 → L (ch i) = []) (hown : ∀ r, r ∈ A → own r < 4) (h8 : ∀ r, r ∈ A → r < 800)
    (hstep : ∀ W W2 r (x : Int), r ∈ A → fX3_takeFirst (fput σ f W b u) (f + o) (zi (24 : Nat)) = some (fput σ f W2 b u, zi r) → 0 < x → x ≤ 800 → step (fput σ f W b u, zi x) = (fX3_add (fput σ f W2 b u) (f + o) (zi (ch (own r))) (zi r)).bind fun c => some (.inl (c, zi (x - 1))))
    (hend : ∀ W, step (fput σ f W b u, zi 0) = some (.inr (fput σ f W b u))) :
    ∃ W L2, zloop step zfuel (fput σ f V b u, zi (A.length : Int)) = some (fput σ f W b u) ∧ LLD W o L2 ∧ L2 24 = [] ∧ (∀ i, i < 4 → L2 (ch i) = A.filter (fun r => own r == i)) ∧ (∀ c, c ≠ 24 → (∀ i, i < 4 → c ≠ ch i) → L2 c = L c) ∧ ∀ p, (p ≤ o ∨ o + 4 < p) → W p = V p := by
  have hlen : A.length ≤ 800 := by
    have := (hL.1 24 (by omega)).2.2.2.2.2
    rw [hA] at this; exact this
  obtain ⟨y, hy, W, L2, rfl, hW⟩ := zloop_run (step := step) (s := (fput σ f V b u, zi (A.length : Int))) (fuel := zfuel) A.length
    (fun t s => ∃ W L2, s = (fput σ f W b u, zi ((A.length : Int) - (t : Int))) ∧ LLD W o L2 ∧ L2 24 = A.drop t ∧ (∀ i, i < 4 → L2 (ch i) = (A.take t).filter (fun r => own r == i)) ∧ (∀ c, c ≠ 24 → (∀ i, i < 4 → c ≠ ch i) → L2 c = L c) ∧ ∀ p, (p ≤ o ∨ o + 4 < p) → W p = V p)
    (fun y => ∃ W L2, y = fput σ f W b u ∧ LLD W o L2 ∧ L2 24 = [] ∧ (∀ i, i < 4 → L2 (ch i) = A.filter (fun r => own r == i)) ∧ (∀ c, c ≠ 24 → (∀ i, i < 4 → c ≠ ch i) → L2 c = L c) ∧ ∀ p, (p ≤ o ∨ o + 4 < p) → W p = V p)
    (fun t s ht hs => by
      obtain ⟨W, L2, rfl, a1, a2, a3, a4, a5⟩ := hs
      have hd : L2 24 = A[t] :: A.drop (t + 1) := by rw [a2, List.drop_eq_getElem_cons ht]
      have hr : A[t] ∈ A := List.getElem_mem ht
      have htk : A.take (t + 1) = A.take t ++ [A[t]] := by rw [List.take_succ_eq_append_getElem ht]
      generalize A[t] = r at hd hr htk
      have hor := hown r hr
      have hcr := hch (own r) hor
      obtain ⟨W2, e2, hW2, fW2⟩ := d_take (σ := σ) (f := f) (b := b) (u := u) (V := W) (l := 24) h ho a1 (by omega) hd
      have hfr : ∀ k, k < 30 → r ∉ qu L2 24 (A.drop (t + 1)) k := fun k hk hn => by
        by_cases e : k = 24
        · rw [e, qu_at] at hn
          have := a1.2.1 24 (by omega)
          rw [hd, List.nodup_cons] at this
          exact this.1 hn
        · rw [qu_ne e] at hn
          exact e (a1.2.2 24 k r (by omega) hk (by rw [hd]; exact List.mem_cons_self) hn).symm
      obtain ⟨W3, e3, hW3, fW3⟩ := d_add (σ := σ) (f := f) (b := b) (u := u) (V := W2) (l := ch (own r)) (r := r) h ho hW2 (by omega) (h8 r hr) hfr
      refine Or.inl ⟨(fput σ f W3 b u, zi ((A.length : Int) - ((t + 1 : Nat) : Int))), ?_, W3, _, rfl, hW3, ?_, fun i hi => ?_, fun c c1 c2 => ?_, fun p hp => ?_⟩
      · rw [hstep W W2 r _ hr e2 (by omega) (by omega), e3, Option.bind_some, show (A.length : Int) - (t : Int) - 1 = (A.length : Int) - ((t + 1 : Nat) : Int) from by omega]
      · rw [qu_ne (by omega), qu_at]
      · have hci := hch i hi
        rw [htk, List.filter_append]
        by_cases e : i = own r
        · rw [e, qu_at, qu_ne (by omega), a3 _ hor]
          simp
        · have hne : ch i ≠ ch (own r) := fun q => e (hinj i (own r) hi hor q)
          rw [qu_ne hne, qu_ne (by omega), a3 i hi]
          have : (own r == i) = false := by simp; omega
          simp [this]
      · rw [qu_ne (c2 _ hor), qu_ne c1]
        exact a4 c c1 c2
      · rw [fW3 p hp, fW2 p (by omega)]; exact a5 p hp)
    (fun s hs => by
      obtain ⟨W, L2, rfl, a1, a2, a3, a4, a5⟩ := hs
      rw [List.drop_length] at a2
      rw [List.take_length] at a3
      refine ⟨_, ?_, W, L2, rfl, a1, a2, a3, a4, a5⟩
      rw [show (A.length : Int) - (A.length : Int) = 0 from by omega]
      exact hend W)
    (zfuel_lt (by omega)) ⟨V, L, by rw [show (A.length : Int) - ((0 : Nat) : Int) = (A.length : Int) from by omega], hL, by rw [hA]; rfl, fun i hi => by rw [h0 i hi]; rfl, fun _ _ _ => rfl, fun _ _ => rfl⟩
  exact ⟨W, L2, hy, hW⟩
end KG
theorem len4 {A : List Nat} {g : Nat → Nat} (h : ∀ r, r ∈ A → g r < 4) : (A.filter (fun r => g r == 0)).length + (A.filter (fun r => g r == 1)).length + (A.filter (fun r => g r == 2)).length + (A.filter (fun r => g r == 3)).length = A.length := by
  induction A with
  | nil => rfl
  | cons a t ih =>
    have h1 := ih (fun r hr => h r (List.mem_cons_of_mem _ hr))
    have h2 := h a List.mem_cons_self
    have : g a = 0 ∨ g a = 1 ∨ g a = 2 ∨ g a = 3 := by omega
    rcases this with e | e | e | e <;> (simp [List.filter_cons, e]; omega)
theorem qpart_congr {P : qP} {m c : Nat} {D E : Nat → List Nat} (hc : c < 24) (h : ∀ d, d < 24 → D d = E d) : qpart P m D c = qpart P m E c := by
  unfold qpart
  by_cases e : c < 16
  · rw [if_pos e, if_pos e]
    have : (List.range 4).flatMap (fun i => D (4 * i + c % 4)) = (List.range 4).flatMap (fun i => E (4 * i + c % 4)) := by
      simp only [List.range_succ, List.range_zero, List.nil_append, List.flatMap_append, List.flatMap_cons, List.flatMap_nil]
      rw [h _ (by omega), h _ (by omega), h _ (by omega), h _ (by omega)]
    rw [this]
  · rw [if_neg e, if_neg e]
    have : (List.range 4).flatMap (fun i => D (4 * (c / 4) + i)) = (List.range 4).flatMap (fun i => E (4 * (c / 4) + i)) := by
      simp only [List.range_succ, List.range_zero, List.nil_append, List.flatMap_append, List.flatMap_cons, List.flatMap_nil]
      rw [h _ (by omega), h _ (by omega), h _ (by omega), h _ (by omega)]
    rw [this]
theorem qpart_nil {P : qP} {m c : Nat} : qpart P m (fun _ => []) c = [] := by
  unfold qpart
  have : ∀ g : Nat → List Nat, (∀ i, g i = []) → (List.range 4).flatMap g = [] := fun g hg => by
    simp only [List.range_succ, List.range_zero, List.nil_append, List.flatMap_append, List.flatMap_cons, List.flatMap_nil, hg]
  by_cases e : c < 16
  · rw [if_pos e]
    split
    · rw [this _ (fun _ => rfl)]; rfl
    · rfl
  · rw [if_neg e]
    split
    · rw [this _ (fun _ => rfl)]; rfl
    · rfl
/-- a line's first lists are all, if the others are empty -/
theorem flat_m {D : Nat → List Nat} {m : Nat} (hm : m ≤ 4) (h : ∀ i, m ≤ i → i < 4 → D i = []) : (List.range m).flatMap D = (List.range 4).flatMap D := by
  have : m = 0 ∨ m = 1 ∨ m = 2 ∨ m = 3 ∨ m = 4 := by omega
  rcases this with rfl | rfl | rfl | rfl | rfl
  · simp only [List.range_succ, List.range_zero, List.nil_append, List.flatMap_append, List.flatMap_cons, List.flatMap_nil]
    rw [h 0 (by omega) (by omega), h 1 (by omega) (by omega), h 2 (by omega) (by omega), h 3 (by omega) (by omega)]; rfl
  · simp only [List.range_succ, List.range_zero, List.nil_append, List.flatMap_append, List.flatMap_cons, List.flatMap_nil]
    rw [h 1 (by omega) (by omega), h 2 (by omega) (by omega), h 3 (by omega) (by omega)]; simp
  · simp only [List.range_succ, List.range_zero, List.nil_append, List.flatMap_append, List.flatMap_cons, List.flatMap_nil]
    rw [h 2 (by omega) (by omega), h 3 (by omega) (by omega)]; simp
  · simp only [List.range_succ, List.range_zero, List.nil_append, List.flatMap_append, List.flatMap_cons, List.flatMap_nil]
    rw [h 3 (by omega) (by omega)]; simp
  · rfl
section KG2
variable {σ : zS} {f b u o : Nat} {V : Nat → Nat → Int32} {L : Nat → List Nat}
theorem k_line {stepG stepD : zS × Int32 → Option ((zS × Int32) ⊕ zS)} {ch own : Nat → Nat} {m : Nat} (h : fsh σ f) (ho : fo o) (hL : LLD V o L) (hm : m ≤ 4) (hch : ∀ i, i < 4 → ch i < 24) (hinj : ∀ i j, i < 4 → j < 4 → ch i = ch j → i = j) (h24 : L 24 = []) (hE : ∀ i, m ≤ i → i < 4 → L (ch i) = []) (hown : ∀ i r, i < 4 → r ∈ L (ch i) → own r < 4 ∧ r < 800)
    (hG : ∀ i W, i < m → stepG (fput σ f W b u, zi (i : Int)) = (fX3_moveAll (fput σ f W b u) (f + o) (zi (ch i)) (zi (24 : Nat))).bind fun c => some (.inl (c, zi (i : Int) + zi 1)))
    (hGe : ∀ W, stepG (fput σ f W b u, zi (m : Int)) = some (.inr (fput σ f W b u)))
    (hD : ∀ W W2 i r (x : Int), i < 4 → r ∈ L (ch i) → fX3_takeFirst (fput σ f W b u) (f + o) (zi (24 : Nat)) = some (fput σ f W2 b u, zi r) → 0 < x → x ≤ 800 → stepD (fput σ f W b u, zi x) = (fX3_add (fput σ f W2 b u) (f + o) (zi (ch (own r))) (zi r)).bind fun c => some (.inl (c, zi (x - 1))))
    (hDe : ∀ W, stepD (fput σ f W b u, zi 0) = some (.inr (fput σ f W b u))) :
    ∃ W1 L1, zloop stepG zfuel (fput σ f V b u, zi 0) = some (fput σ f W1 b u) ∧ LLD W1 o L1 ∧ ∃ W2 L2, zloop stepD zfuel (fput σ f W1 b u, zi ((L1 24).length : Int)) = some (fput σ f W2 b u) ∧ LLD W2 o L2 ∧ L2 24 = [] ∧ (∀ i, i < 4 → L2 (ch i) = ((List.range 4).flatMap (fun i => L (ch i))).filter (fun r => own r == i)) ∧ (∀ c, c ≠ 24 → (∀ i, i < 4 → c ≠ ch i) → L2 c = L c) ∧ ∀ p, (p ≤ o ∨ o + 4 < p) → W2 p = V p := by
  obtain ⟨W1, L1, e1, a1, a2, a3, a4, a5⟩ := k_gather h ho hL hm hch hinj h24 hG hGe
  rw [flat_m hm hE] at a2
  have hin : ∀ r, r ∈ L1 24 → ∃ i, i < 4 ∧ r ∈ L (ch i) := fun r hr => by
    rw [a2, List.mem_flatMap] at hr
    obtain ⟨i, hi, hr⟩ := hr
    exact ⟨i, List.mem_range.mp hi, hr⟩
  have hz : ∀ i, i < 4 → L1 (ch i) = [] := fun i hi => by
    by_cases q : i < m
    · exact a3 i q
    · have hci := hch i hi
      rw [a4 (ch i) (by omega) (fun j hj e => by have := hinj i j hi (by omega) e; omega)]
      exact hE i (by omega) hi
  obtain ⟨W2, L2, e2, b1, b2, b3, b4, b5⟩ := k_deal (step := stepD) (own := own) (A := L1 24) h ho a1 rfl hch hinj hz (fun r hr => by
    obtain ⟨i, hi, hr2⟩ := hin r hr
    exact (hown i r hi hr2).1) (fun r hr => by
    obtain ⟨i, hi, hr2⟩ := hin r hr
    exact (hown i r hi hr2).2) (fun W W2 r x hr ht x1 x2 => by
    obtain ⟨i, hi, hr2⟩ := hin r hr
    exact hD W W2 i r x hi hr2 ht x1 x2) hDe
  refine ⟨W1, L1, e1, a1, W2, L2, e2, b1, b2, fun i hi => by rw [b3 i hi, a2], fun c c1 c2 => ?_, fun p hp => by rw [b5 p hp, a5 p hp]⟩
  rw [b4 c c1 c2, a4 c c1 (fun i hi => c2 i (by omega))]
end KG2
