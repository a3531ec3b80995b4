/-! Loops over the class's flow; lists with each record once; the setup. -/
theorem cfor {σ : zS} {f b u : Nat} {step : zS × Int32 → Option ((zS × Int32) ⊕ zS)} (a n : Nat) (I : Nat → (Nat → Nat → Int32) → Prop) (hs : ∀ i V, a ≤ i → i < n → I i V → ∃ W, step (fput σ f V b u, zi (i : Int)) = some (.inl (fput σ f W b u, zi (i : Int) + zi 1)) ∧ I (i + 1) W)
    (he : ∀ V, I n V → step (fput σ f V b u, zi (n : Int)) = some (.inr (fput σ f V b u))) (han : a ≤ n) (hn : n < 1000000) {V : Nat → Nat → Int32} {x : Int} (hx : x = (a : Int)) (h : I a V) : ∃ W, zloop step zfuel (fput σ f V b u, zi x) = some (fput σ f W b u) ∧ I n W := by
  subst hx
  have key := zloop_run (step := step) (n - a) (fun i z => ∃ A, z = (fput σ f A b u, zi ((a + i : Nat) : Int)) ∧ I (a + i) A) (fun o => ∃ B, o = fput σ f B b u ∧ I n B) (by
    rintro i z hi ⟨A, rfl, hA⟩
    obtain ⟨B, e, hB⟩ := hs (a + i) A (by omega) (by omega) hA
    exact Or.inl ⟨_, e, B, by rw [zi_add]; rfl, hB⟩) (by
    rintro z ⟨A, rfl, hA⟩
    rw [show a + (n - a) = n from by omega] at hA ⊢
    exact ⟨_, he A hA, A, rfl, hA⟩) (zfuel_lt (by omega)) (s := (fput σ f V b u, zi (a : Int))) ⟨V, rfl, h⟩
  obtain ⟨o, e, B, rfl, hB⟩ := key
  exact ⟨B, e, hB⟩
def LLD (V : Nat → Nat → Int32) (o : Nat) (L : Nat → List Nat) : Prop := LL V o L ∧ LD L
theorem LLD_congr {V W : Nat → Nat → Int32} {o : Nat} {L K : Nat → List Nat} (h : LLD V o L) (hw : ∀ p, o < p → p < o + 5 → W p = V p) (hk : ∀ l, l < 30 → K l = L l) : LLD W o K := by
  refine ⟨fun l hl => ?_, fun l hl => ?_, fun l k n hl hk2 h1 h2 => ?_⟩
  · rw [hk l hl, hw (o + 1) (by omega) (by omega), hw (o + 2) (by omega) (by omega), hw (o + 3) (by omega) (by omega), hw (o + 4) (by omega) (by omega)]
    exact h.1 l hl
  · rw [hk l hl]; exact h.2.1 l hl
  · rw [hk l hl] at h1
    rw [hk k hk2] at h2
    exact h.2.2 l k n hl hk2 h1 h2
theorem LD_len {V : Nat → Nat → Int32} {o l : Nat} {L : Nat → List Nat} (h : LLD V o L) (hl : l < 30) : (L l).length ≤ 800 := (h.1 l hl).2.2.2.2.2
theorem LD_I {P : qP} {M : qM} (hI : qI P M) : LD M.2.1 := ⟨fun _ hl => qI_nodup hI hl, fun _ _ _ hl hk h1 h2 => qI_one hI hl hk h1 h2⟩
section LX
variable {σ : zS} {f b u o : Nat} {V : Nat → Nat → Int32} {L : Nat → List Nat}
theorem d_add {l r : Nat} (h : fsh σ f) (ho : fo o) (hL : LLD V o L) (hl : l < 30) (hr : r < 800) (hfr : ∀ k, k < 30 → r ∉ L k) : ∃ W, fX3_add (fput σ f V b u) (f + o) (zi l) (zi r) = some (fput σ f W b u) ∧ LLD W o (qu L l (L l ++ [r])) ∧ ∀ p, (p ≤ o ∨ o + 4 < p) → W p = V p := by
  have hnd : (L l ++ [r]).Nodup := by
    rw [List.nodup_append]
    refine ⟨hL.2.1 l hl, List.nodup_cons.mpr ⟨List.not_mem_nil, List.nodup_nil⟩, fun a ha c hc e => ?_⟩
    rw [List.mem_singleton] at hc
    rw [e, hc] at ha
    exact hfr l hl ha
  have hlen : (L l ++ [r]).length ≤ 800 := q_len (b := 0) hnd (fun n hn => by
    rw [List.mem_append, List.mem_singleton] at hn
    rcases hn with hn | rfl
    · have := (hL.1 l hl).2.2.2.2.1 n hn
      omega
    · omega)
  rw [List.length_append, List.length_singleton] at hlen
  obtain ⟨W, e, hW, hf⟩ := c_add h ho hL.1 hL.2 hl hr hfr (b := b) (u := u) (by omega)
  refine ⟨W, e, ⟨hW, fun k hk => ?_, fun k m n hk hm h1 h2 => ?_⟩, hf⟩
  · by_cases e1 : k = l
    · rw [e1, qu_at]; exact hnd
    · rw [qu_ne e1]; exact hL.2.1 k hk
  · by_cases e1 : k = l
    · by_cases e2 : m = l
      · rw [e1, e2]
      · rw [e1, qu_at, List.mem_append, List.mem_singleton] at h1
        rw [qu_ne e2] at h2
        rcases h1 with h1 | rfl
        · rw [e1]; exact hL.2.2 l m n hl hm h1 h2
        · exact absurd h2 (hfr m hm)
    · rw [qu_ne e1] at h1
      by_cases e2 : m = l
      · rw [e2, qu_at, List.mem_append, List.mem_singleton] at h2
        rcases h2 with h2 | rfl
        · rw [e2]; exact hL.2.2 k l n hk hl h1 h2
        · exact absurd h1 (hfr k hk)
      · rw [qu_ne e2] at h2
        exact hL.2.2 k m n hk hm h1 h2
/-- one list gets less -/
theorem LD_less {l : Nat} {t : List Nat} (hD : LD L) (ht : t.Sublist (L l)) : LD (qu L l t) := by
  have sub : ∀ k n, n ∈ qu L l t k → n ∈ L k := fun k n hn => by
    by_cases e : k = l
    · rw [e, qu_at] at hn; rw [e]; exact ht.subset hn
    · rw [qu_ne e] at hn; exact hn
  refine ⟨fun k hk => ?_, fun k m n hk hm h1 h2 => hD.2 k m n hk hm (sub k n h1) (sub m n h2)⟩
  by_cases e : k = l
  · rw [e, qu_at]; exact (hD.1 l (by omega)).sublist ht
  · rw [qu_ne e]; exact hD.1 k hk
theorem d_clear {l : Nat} (h : fsh σ f) (ho : fo o) (hL : LLD V o L) (hl : l < 30) : ∃ W, fX3_clear (fput σ f V b u) (f + o) (zi l) = some (fput σ f W b u) ∧ LLD W o (qu L l []) ∧ ∀ p, (p ≤ o + 1 ∨ o + 4 < p) → W p = V p := by
  obtain ⟨W, e, hW, hf⟩ := c_clear h ho hL.1 hl (b := b) (u := u)
  exact ⟨W, e, ⟨hW, LD_less hL.2 (List.nil_sublist _)⟩, hf⟩
theorem d_take {l r : Nat} {t : List Nat} (h : fsh σ f) (ho : fo o) (hL : LLD V o L) (hl : l < 30) (he : L l = r :: t) : ∃ W, fX3_takeFirst (fput σ f V b u) (f + o) (zi l) = some (fput σ f W b u, zi r) ∧ LLD W o (qu L l t) ∧ ∀ p, (p ≤ o + 1 ∨ o + 4 < p) → W p = V p := by
  obtain ⟨W, e, hW, hf⟩ := c_take h ho hL.1 hl he (b := b) (u := u)
  exact ⟨W, e, ⟨hW, LD_less hL.2 (by rw [he]; exact List.sublist_cons_self r t)⟩, hf⟩
theorem d_moves {l m : Nat} (h : fsh σ f) (ho : fo o) (hL : LLD V o L) (hl : l < 30) (hm : m < 30) (hlm : l ≠ m) : ∃ W, fX3_moveAll (fput σ f V b u) (f + o) (zi l) (zi m) = some (fput σ f W b u) ∧ LLD W o (qu (qu L m (L m ++ L l)) l []) ∧ ∀ p, (p ≤ o ∨ o + 4 < p) → W p = V p := by
  have hnd : (L m ++ L l).Nodup := by
    rw [List.nodup_append]
    refine ⟨hL.2.1 m hm, hL.2.1 l hl, fun a ha c hc e => ?_⟩
    rw [← e] at hc
    exact hlm (hL.2.2 l m a hl hm hc ha)
  have hlen : (L m ++ L l).length ≤ 800 := q_len (b := 0) hnd (fun n hn => by
    rw [List.mem_append] at hn
    rcases hn with hn | hn
    · have := (hL.1 m hm).2.2.2.2.1 n hn
      omega
    · have := (hL.1 l hl).2.2.2.2.1 n hn
      omega)
  rw [List.length_append] at hlen
  obtain ⟨W, e, hW, hf⟩ := c_moves h ho hL.1 hL.2 hl hm hlm hlen (b := b) (u := u)
  have at1 : ∀ k n, n ∈ qu (qu L m (L m ++ L l)) l [] k → k ≠ l ∧ (n ∈ L k ∨ k = m ∧ n ∈ L l) := fun k n hn => by
    by_cases e1 : k = l
    · rw [e1, qu_at] at hn; exact absurd hn List.not_mem_nil
    · rw [qu_ne e1] at hn
      by_cases e2 : k = m
      · rw [e2, qu_at, List.mem_append] at hn
        rw [e2]
        exact ⟨by rw [← e2]; exact e1, hn.imp id (fun q => ⟨rfl, q⟩)⟩
      · rw [qu_ne e2] at hn
        exact ⟨e1, Or.inl hn⟩
  refine ⟨W, e, ⟨hW, fun k hk => ?_, fun j k n hj hk h1 h2 => ?_⟩, hf⟩
  · by_cases e1 : k = l
    · rw [e1, qu_at]; exact List.nodup_nil
    · rw [qu_ne e1]
      by_cases e2 : k = m
      · rw [e2, qu_at]; exact hnd
      · rw [qu_ne e2]; exact hL.2.1 k hk
  · obtain ⟨a1, a2⟩ := at1 j n h1
    obtain ⟨b1, b2⟩ := at1 k n h2
    rcases a2 with a2 | ⟨rfl, a2⟩
    · rcases b2 with b2 | ⟨rfl, b2⟩
      · exact hL.2.2 j k n hj hk a2 b2
      · exact absurd (hL.2.2 j l n hj hl a2 b2) a1
    · rcases b2 with b2 | ⟨rfl, b2⟩
      · exact absurd (hL.2.2 k l n hk hl b2 a2) b1
      · rfl
end LX
/-- the setup at u: a block of ten cells -/
def SU (σ : zS) (u : Nat) (P : qP) : Prop :=
  (σ.1 u).1 = 12 ∧ σ.2.1 u 0 = zi P.1 ∧ σ.2.1 u 1 = zi P.2.1 ∧ (∀ j, 2 ≤ j → j ≤ 10 → σ.2.2.1 u j = some (u + (j - 1))) ∧
  (σ.1 (u + 1) = (1, 4) ∧ ∀ s, s < 4 → σ.2.1 (u + 1) s = zi (P.2.2.1 s)) ∧
  (σ.1 (u + 7) = (1, 800) ∧ ∀ n, n < 800 → n % 200 < P.2.2.1 (n / 200) → σ.2.1 (u + 7) n = zi (qkey P n)) ∧
  (σ.1 (u + 8) = (1, 800) ∧ ∀ n, n < 800 → n % 200 < P.2.2.1 (n / 200) → σ.2.1 (u + 8) n = zi (qval P n)) ∧
  (σ.1 (u + 9) = (1, 800) ∧ ∀ n, n < 800 → n % 200 < P.2.2.1 (n / 200) → σ.2.1 (u + 9) n = zi (qres P n))
theorem SU_put {σ : zS} {f b u w : Nat} {V : Nat → Nat → Int32} {P : qP} (h : SU σ u P) (hd : u + 10 ≤ f ∨ f + 31 ≤ u) : SU (fput σ f V b w) u P := by
  obtain ⟨a1, a2, a3, a4, a5, a6, a7, a8⟩ := h
  refine ⟨a1, ?_, ?_, fun j h1 h2 => ?_, ⟨a5.1, ?_⟩, ⟨a6.1, ?_⟩, ⟨a7.1, ?_⟩, ⟨a8.1, ?_⟩⟩
  · rw [fp_ne (by omega)]; exact a2
  · rw [fp_ne (by omega)]; exact a3
  · rw [fr_oth (by omega)]; exact a4 j h1 h2
  · rw [fp_ne (by omega)]; exact a5.2
  · rw [fp_ne (by omega)]; exact a6.2
  · rw [fp_ne (by omega)]; exact a7.2
  · rw [fp_ne (by omega)]; exact a8.2
section SX
variable {τ : zS} {u : Nat} {P : qP}
theorem su_i {j : Nat} (h : SU τ u P) : zgI 7 j τ u = some (τ.2.1 u j) := if_pos h.1
theorem su_r {j : Nat} (h : SU τ u P) (h1 : 2 ≤ j) (h2 : j ≤ 10) : zgR 7 j τ u = some (u + (j - 1)) := by
  unfold zgR
  rw [if_pos (show (τ.1 u).1 = 7 + 5 from h.1)]
  exact h.2.2.2.1 j h1 h2
theorem su_c {α : Type} {o : Option α} (h : SU τ u P) : zck 7 τ u o = o := if_pos (show (τ.1 u).1 = 7 + 5 from h.1)
theorem su_rec {s : Nat} (h : SU τ u P) (hs : s < 4) : zaI τ (u + 1) (zi s) = some (zi (P.2.2.1 s)) := by
  rw [zaI_of s h.2.2.2.2.1.1 rfl hs (by omega), h.2.2.2.2.1.2 s hs]
theorem su_key {n : Nat} (h : SU τ u P) (hn : n < 800) (hr : n % 200 < P.2.2.1 (n / 200)) : fX7_keyOf τ u (zi n) = some (τ, zi (qkey P n)) := by
  unfold fX7_keyOf
  rw [if_neg (by rw [zi_lt (by omega) (by omega) (by omega) (by omega)]; omega), if_neg (zi_nle (by omega) (by omega) (by omega)), su_r h (by omega) (by omega), Option.bind_some, zaI_of n h.2.2.2.2.2.1.1 rfl hn (by omega), Option.bind_some, h.2.2.2.2.2.1.2 n hn hr]
theorem su_val {n : Nat} (h : SU τ u P) (hn : n < 800) (hr : n % 200 < P.2.2.1 (n / 200)) : fX7_valueOf τ u (zi n) = some (τ, zi (qval P n)) := by
  unfold fX7_valueOf
  rw [if_neg (by rw [zi_lt (by omega) (by omega) (by omega) (by omega)]; omega), if_neg (zi_nle (by omega) (by omega) (by omega)), su_r h (by omega) (by omega), Option.bind_some, zaI_of n h.2.2.2.2.2.2.1.1 rfl hn (by omega), Option.bind_some, h.2.2.2.2.2.2.1.2 n hn hr]
theorem c_channel {r x : Nat} : fX9_channel τ (zi r) (zi x) = some (τ, zi ((4 * r + x : Nat) : Int)) := by
  unfold fX9_channel
  rw [zi_mul, zi_add]
  rfl
theorem c_owner {k m : Nat} (hk : k < 16) (hm : m < 10) : fX9_ownerOf τ (zi k) (zi m) = some (τ, zi (qown k m)) := by
  unfold fX9_ownerOf
  have : k % 8 < 8 := Nat.mod_lt _ (by decide)
  have h2 : k % 8 * m ≤ 7 * 9 := Nat.mul_le_mul (by omega) (by omega)
  rw [zi_div (by omega) (by omega) (by omega) (by omega), zi_mul, zi_sub, show (k : Int) - (k : Int) / 8 * 8 = ((k % 8 : Nat) : Int) from by omega, zi_mul, show ((k % 8 : Nat) : Int) * (m : Int) = ((k % 8 * m : Nat) : Int) from by rw [Int.natCast_mul], zi_div (by omega) (by omega) (by omega) (by omega)]
  unfold qown
  rw [Int.natCast_ediv]
  rfl
theorem c_sink {k : Nat} (h : SU τ u P) (hk : k < 16) (h1 : 1 ≤ P.2.1) (h2 : P.2.1 ≤ 2) : fX7_sinkOf τ u (zi k) = some (τ, zi (qsk P k)) := by
  unfold fX7_sinkOf
  rw [su_i h, Option.bind_some, h.2.2.1, if_pos (by rw [zi_le (by omega) (by omega) (by omega) (by omega)]; omega), Option.bind_some, znz_zi (by omega) (by omega) (by omega), Option.bind_some, zi_div (by omega) (by omega) (by omega) (by omega), zi_div (by omega) (by omega) (by omega) (by omega), zi_mul, zi_sub]
  refine congrArg (fun q => some (τ, zi q)) ?_
  unfold qsk
  have : P.2.1 = 1 ∨ P.2.1 = 2 := by omega
  rcases this with e | e <;> (rw [e]; omega)
end SX
