/-! Linked lists: one row of links for all. -/
def lhd (L : List Nat) : Int := match L with | [] => -1 | n :: _ => (n : Int)
def llt (L : List Nat) : Int := match L.getLast? with | none => -1 | some n => (n : Int)
def LLo (nx fi la sz : Nat → Int32) (l : Nat) (L : List Nat) : Prop := sz l = zi L.length ∧ fi l = zi (lhd L) ∧ la l = zi (llt L) ∧ (∀ i, i + 1 < L.length → nx (L.getD i 0) = zi (L.getD (i + 1) 0)) ∧ (∀ n, n ∈ L → n < 800) ∧ L.length ≤ 800
def LL (V : Nat → Nat → Int32) (o : Nat) (L : Nat → List Nat) : Prop := ∀ l, l < 30 → LLo (V (o + 1)) (V (o + 2)) (V (o + 3)) (V (o + 4)) l (L l)
/-- each record is in one list at most, once -/
def LD (L : Nat → List Nat) : Prop := (∀ l, l < 30 → (L l).Nodup) ∧ ∀ l k n, l < 30 → k < 30 → n ∈ L l → n ∈ L k → l = k
theorem lhd_in {L : List Nat} (h : ∀ n, n ∈ L → n < 800) : -1 ≤ lhd L ∧ lhd L < 800 := by
  cases L with
  | nil => exact ⟨by decide, by decide⟩
  | cons n t =>
    have := h n List.mem_cons_self
    show -1 ≤ (n : Int) ∧ (n : Int) < 800
    omega
theorem llt_in {L : List Nat} (h : ∀ n, n ∈ L → n < 800) : -1 ≤ llt L ∧ llt L < 800 := by
  unfold llt
  cases e : L.getLast? with
  | none => exact ⟨by decide, by decide⟩
  | some n =>
    have := h n (List.mem_of_getLast? e)
    dsimp only
    omega
theorem llt_nil : llt [] = -1 := rfl
theorem llt_app (L : List Nat) (n : Nat) : llt (L ++ [n]) = n := by
  unfold llt
  rw [List.getLast?_append]
  rfl
theorem llt_cat {L K : List Nat} (h : K ≠ []) : llt (L ++ K) = llt K := by
  unfold llt
  rw [List.getLast?_append]
  cases e : K.getLast? with
  | none => exact absurd (List.getLast?_eq_none_iff.mp e) h
  | some n => rfl
theorem llt_tail {n : Nat} {t : List Nat} (h : t ≠ []) : llt (n :: t) = llt t := llt_cat (L := [n]) h
theorem lhd_app {L K : List Nat} (h : L ≠ []) : lhd (L ++ K) = lhd L := by
  cases L with
  | nil => exact absurd rfl h
  | cons n t => rfl
theorem llt_get {L : List Nat} (h : L ≠ []) : llt L = (L.getD (L.length - 1) 0 : Nat) := by
  unfold llt
  have h2 : L.length - 1 < L.length := by have := List.length_pos_iff.mpr h; omega
  rw [List.getLast?_eq_getElem?, List.getD_eq_getElem?_getD, List.getElem?_eq_getElem h2]
  rfl
theorem LLo_congr {nx fi la sz nx2 fi2 la2 sz2 : Nat → Int32} {l : Nat} {L : List Nat} (h : LLo nx fi la sz l L) (h1 : ∀ n, n ∈ L → nx2 n = nx n) (h2 : fi2 l = fi l) (h3 : la2 l = la l) (h4 : sz2 l = sz l) : LLo nx2 fi2 la2 sz2 l L := by
  obtain ⟨a, b, c, d, e, g⟩ := h
  refine ⟨h4.trans a, h2.trans b, h3.trans c, fun i hi => ?_, e, g⟩
  rw [h1]
  · exact d i hi
  · rw [List.getD_eq_getElem?_getD, List.getElem?_eq_getElem (by omega)]
    exact List.getElem_mem _
section LC
variable {σ : zS} {f b u o : Nat} {V : Nat → Nat → Int32} {L : Nat → List Nat}
theorem c_isList {τ : zS} {l : Nat} (h : l < 30) : fX3_isList τ (zi l) = some (τ, zi 1) := by
  unfold fX3_isList
  rw [if_neg (by rw [zi_lt (by omega) (by omega) (by omega) (by omega)]; omega), if_neg (zi_nle (by omega) (by omega) (by omega)), zrZ_1]
theorem c_isRec {τ : zS} {x : Int} (h1 : -1 ≤ x) (h2 : x < 800) : fX3_isRecord τ (zi x) = some (τ, zb (decide (0 ≤ x))) := by
  unfold fX3_isRecord
  by_cases e : 0 ≤ x
  · rw [if_neg (by rw [zi_lt (by omega) (by omega) (by omega) (by omega)]; omega), if_neg (zi_nle (by omega) (by omega) (by omega)), zrZ_1, decide_eq_true e]; rfl
  · rw [if_pos (by rw [zi_lt (by omega) (by omega) (by omega) (by omega)]; omega), zrZ_0, decide_eq_false e]; rfl
theorem c_sizeOf {l : Nat} (h : fsh σ f) (ho : fo o) (hL : LL V o L) (hl : l < 30) : fX3_sizeOf (fput σ f V b u) (f + o) (zi l) = some (fput σ f V b u, zi (L l).length) := by
  unfold fX3_sizeOf
  rw [c_isList hl, Option.bind_some, if_neg (show ¬ zi 1 = zi 0 from by decide), lr 3 h ho (by omega), Option.bind_some, fa_rd (o + 4) l h (flen_size ho).2 rfl (by rw [(flen_size ho).1]; exact hl), Option.bind_some, (hL l hl).1]
theorem c_firstOf {l : Nat} (h : fsh σ f) (ho : fo o) (hL : LL V o L) (hl : l < 30) : fX3_firstOf (fput σ f V b u) (f + o) (zi l) = some (fput σ f V b u, zi (lhd (L l))) := by
  unfold fX3_firstOf
  rw [c_isList hl, Option.bind_some, if_neg (show ¬ zi 1 = zi 0 from by decide), lr 1 h ho (by omega), Option.bind_some, fa_rd (o + 2) l h (flen_first ho).2 rfl (by rw [(flen_first ho).1]; exact hl), Option.bind_some, (hL l hl).2.1]
theorem c_behind {n : Nat} (h : fsh σ f) (ho : fo o) (hn : n < 800) : fX3_behind (fput σ f V b u) (f + o) (zi n) = some (fput σ f V b u, V (o + 1) n) := by
  unfold fX3_behind
  rw [c_isRec (by omega) (by omega), Option.bind_some, decide_eq_true (by omega), if_neg (show ¬ zb true = zi 0 from by decide), lr 0 h ho (by omega), Option.bind_some, fa_rd (o + 1) n h (flen_next ho).2 rfl (by rw [(flen_next ho).1]; exact hn), Option.bind_some]
theorem c_behind0 {x : Int} (h : x = -1) : fX3_behind (fput σ f V b u) (f + o) (zi x) = some (fput σ f V b u, zi (-1)) := by
  subst h
  unfold fX3_behind
  rw [c_isRec (by omega) (by omega), Option.bind_some, decide_eq_false (by omega)]
  exact if_pos rfl
theorem c_clear {l : Nat} (h : fsh σ f) (ho : fo o) (hL : LL V o L) (hl : l < 30) : ∃ W, fX3_clear (fput σ f V b u) (f + o) (zi l) = some (fput σ f W b u) ∧ LL W o (qu L l []) ∧ ∀ p, (p ≤ o + 1 ∨ o + 4 < p) → W p = V p := by
  refine ⟨vs (vs (vs V (o + 2) l (zi (-1))) (o + 3) l (zi (-1))) (o + 4) l (zi 0), ?_, fun k hk => ?_, fun p hp => ?_⟩
  · unfold fX3_clear
    rw [if_neg (by rw [zi_lt (by omega) (by omega) (by omega) (by omega)]; omega), if_neg (zi_nle (by omega) (by omega) (by omega)), lr 1 h ho (by omega), Option.bind_some, fa_wr (o + 2) l h (flen_first ho).2 rfl (by rw [(flen_first ho).1]; exact hl), Option.bind_some, lr 2 h ho (by omega), Option.bind_some, fa_wr (o + 3) l h (flen_last ho).2 rfl (by rw [(flen_last ho).1]; exact hl), Option.bind_some, lr 3 h ho (by omega), Option.bind_some, fa_wr (o + 4) l h (flen_size ho).2 rfl (by rw [(flen_size ho).1]; exact hl), Option.bind_some]
  · by_cases e : k = l
    · subst e
      rw [qu_at]
      refine ⟨?_, ?_, ?_, fun i hi => ?_, fun n hn => ?_, Nat.zero_le _⟩
      · rw [vs_at]; rfl
      · rw [vs_ne (by omega), vs_ne (by omega), vs_at]; rfl
      · rw [vs_ne (by omega), vs_at]; rfl
      · cases hi
      · cases hn
    · rw [qu_ne e]
      refine LLo_congr (hL k hk) (fun n _ => ?_) ?_ ?_ ?_
      · rw [vs_ne (by omega), vs_ne (by omega), vs_ne (by omega)]
      · rw [vs_ne (by omega), vs_ne (by omega), vs_ne (by omega)]
      · rw [vs_ne (by omega), vs_ne (by omega), vs_ne (by omega)]
      · rw [vs_ne (by omega), vs_ne (by omega), vs_ne (by omega)]
  · rw [vs_no (by omega), vs_no (by omega), vs_no (by omega)]
theorem getD_mem {L : List Nat} {i : Nat} (h : i < L.length) : L.getD i 0 ∈ L := by
  rw [List.getD_eq_getElem?_getD, List.getElem?_eq_getElem h]
  exact List.getElem_mem _
theorem getD_nodup {L : List Nat} (h : L.Nodup) {i j : Nat} (hi : i < L.length) (hj : j < L.length) (e : L.getD i 0 = L.getD j 0) : i = j := by
  rw [List.getD_eq_getElem?_getD, List.getD_eq_getElem?_getD, List.getElem?_eq_getElem hi, List.getElem?_eq_getElem hj] at e
  have e1 : L[i] = L[j] := e
  have hp := List.pairwise_iff_getElem.mp h
  rcases Nat.lt_trichotomy i j with q | q | q
  · exact absurd e1 (hp i j hi hj q)
  · exact q
  · exact absurd e1.symm (hp j i hj hi q)
theorem getD_app1 {L : List Nat} {r i : Nat} (h : i < L.length) : (L ++ [r]).getD i 0 = L.getD i 0 := by
  rw [List.getD_eq_getElem?_getD, List.getElem?_append_left h, List.getD_eq_getElem?_getD]
theorem getD_app2 {L : List Nat} {r : Nat} : (L ++ [r]).getD L.length 0 = r := by
  rw [List.getD_eq_getElem?_getD, List.getElem?_append_right (Nat.le_refl _), Nat.sub_self]
  rfl
theorem c_add {l r : Nat} (h : fsh σ f) (ho : fo o) (hL : LL V o L) (hD : LD L) (hl : l < 30) (hr : r < 800) (hfr : ∀ k, k < 30 → r ∉ L k) (hlen : (L l).length < 800) : ∃ W, fX3_add (fput σ f V b u) (f + o) (zi l) (zi r) = some (fput σ f W b u) ∧ LL W o (qu L l (L l ++ [r])) ∧ ∀ p, (p ≤ o ∨ o + 4 < p) → W p = V p := by
  obtain ⟨s1, s2, s3, s4, s5, s6⟩ := hL l hl
  have ht := llt_in s5
  -- the end, once the tail is linked
  have fin : ∀ X : Nat → Nat → Int32, (∀ p, p ≠ o + 1 → p ≠ o + 2 → X p = V p) → (∀ k, k < 30 → k ≠ l → X (o + 2) k = V (o + 2) k) → X (o + 2) l = zi (lhd (L l ++ [r])) → (∀ n, (L l = [] ∨ n ≠ (L l).getD ((L l).length - 1) 0) → X (o + 1) n = V (o + 1) n) → (L l ≠ [] → X (o + 1) ((L l).getD ((L l).length - 1) 0) = zi r) →
      ∃ W, jX3_add_46 (fput σ f X b u) (f + o) (zi l) (zi r) = some (fput σ f W b u) ∧ LL W o (qu L l (L l ++ [r])) ∧ ∀ p, (p ≤ o ∨ o + 4 < p) → W p = V p := by
    intro X x1 x2 x3 x4 x5
    refine ⟨vs (vs (vs X (o + 1) r (zi (-1))) (o + 3) l (zi r)) (o + 4) l (zi ((L l).length + 1)), ?_, fun k hk => ?_, fun p hp => ?_⟩
    · unfold jX3_add_46
      rw [lr 0 h ho (by omega), Option.bind_some, fa_wr (o + 1) r h (flen_next ho).2 rfl (by rw [(flen_next ho).1]; exact hr), Option.bind_some, lr 2 h ho (by omega), Option.bind_some, fa_wr (o + 3) l h (flen_last ho).2 rfl (by rw [(flen_last ho).1]; exact hl), Option.bind_some, lr 3 h ho (by omega), Option.bind_some, fa_rd (o + 4) l h (flen_size ho).2 rfl (by rw [(flen_size ho).1]; exact hl), Option.bind_some, vs_ne (by omega), vs_ne (by omega), x1 _ (by omega) (by omega), s1, zi_add, fa_wr (o + 4) l h (flen_size ho).2 rfl (by rw [(flen_size ho).1]; exact hl), Option.bind_some]
    · by_cases e : k = l
      · subst e
        rw [qu_at]
        refine ⟨?_, ?_, ?_, fun i hi => ?_, fun n hn => ?_, ?_⟩
        · rw [vs_at, List.length_append]; rfl
        · rw [vs_ne (by omega), vs_ne (by omega), vs_ne (by omega)]; exact x3
        · rw [vs_ne (by omega), vs_at, llt_app]
        · rw [List.length_append, List.length_singleton] at hi
          have hne : (L k).getD i 0 ≠ r := fun q => hfr k hk (by rw [← q]; exact getD_mem (by omega))
          rw [vs_ne (by omega), vs_ne (by omega), getD_app1 (by omega), vs_ne (Or.inr hne)]
          by_cases e2 : i + 1 = (L k).length
          · have hne2 : L k ≠ [] := fun q => by rw [q] at e2; cases e2
            have : i = (L k).length - 1 := by omega
            rw [e2, getD_app2, this]
            exact x5 hne2
          · rw [getD_app1 (by omega), x4 _ (Or.inr (fun q => by
              have := getD_nodup (hD.1 k hk) (by omega) (by omega) q
              omega))]
            exact s4 i (by omega)
        · rw [List.mem_append, List.mem_singleton] at hn
          rcases hn with hn | rfl
          · exact s5 n hn
          · exact hr
        · rw [List.length_append, List.length_singleton]; omega
      · rw [qu_ne e]
        refine LLo_congr (hL k hk) (fun n hn => ?_) ?_ ?_ ?_
        · rw [vs_ne (by omega), vs_ne (by omega), vs_ne (Or.inr (fun q => hfr k hk (by rw [← q]; exact hn)))]
          by_cases e3 : L l = []
          · exact x4 n (Or.inl e3)
          · refine x4 n (Or.inr (fun q => e ?_))
            have hp := List.length_pos_iff.mpr e3
            exact hD.2 k l n hk hl hn (by rw [q]; exact getD_mem (by omega))
        · rw [vs_ne (by omega), vs_ne (by omega), vs_ne (by omega)]; exact x2 k hk e
        · rw [vs_ne (by omega), vs_ne (by omega), vs_ne (by omega), x1 _ (by omega) (by omega)]
        · rw [vs_ne (by omega), vs_ne (by omega), vs_ne (by omega), x1 _ (by omega) (by omega)]
    · rw [vs_no (by omega), vs_no (by omega), vs_no (by omega)]
      exact x1 p (by omega) (by omega)
  unfold fX3_add
  rw [c_isList hl, Option.bind_some, if_neg (show ¬ zi 1 = zi 0 from by decide), c_isRec (by omega) (by omega), Option.bind_some, decide_eq_true (by omega), if_neg (show ¬ zb true = zi 0 from by decide), lr 2 h ho (by omega), Option.bind_some, fa_rd (o + 3) l h (flen_last ho).2 rfl (by rw [(flen_last ho).1]; exact hl), Option.bind_some, s3, c_isRec (by omega) (by omega), Option.bind_some]
  dsimp only
  rw [zb_if]
  by_cases e : L l = []
  · rw [show llt (L l) = -1 from by rw [e]; rfl, if_neg (by decide), lr 1 h ho (by omega), Option.bind_some, fa_wr (o + 2) l h (flen_first ho).2 rfl (by rw [(flen_first ho).1]; exact hl), Option.bind_some]
    refine fin (vs V (o + 2) l (zi r)) (fun p h1 h2 => vs_no h2) (fun k _ hk => vs_ne (Or.inr hk)) ?_ (fun n _ => vs_ne (by omega)) (fun q => absurd e q)
    rw [vs_at, e]
    rfl
  · have hp := List.length_pos_iff.mpr e
    have hlm := s5 _ (getD_mem (L := L l) (i := (L l).length - 1) (by omega))
    rw [llt_get e, decide_eq_true (by omega), if_pos rfl, lr 0 h ho (by omega), Option.bind_some, fa_wr (o + 1) ((L l).getD ((L l).length - 1) 0) h (flen_next ho).2 rfl (by rw [(flen_next ho).1]; exact hlm), Option.bind_some]
    refine fin _ (fun p h1 h2 => vs_no h1) (fun k _ hk => vs_ne (by omega)) ?_ (fun n hn => ?_) (fun _ => vs_at _ _ _ _)
    · rw [vs_ne (by omega), s2, lhd_app e]
    · rcases hn with hn | hn
      · exact absurd hn e
      · exact vs_ne (Or.inr hn)
end LC
