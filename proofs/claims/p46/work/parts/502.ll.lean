/-! Linked lists: the first is taken, all move on. -/
theorem c_clear_raw {σ : zS} {f b u o l : Nat} {V : Nat → Nat → Int32} (h : fsh σ f) (ho : fo o) (hl : l < 30) : fX3_clear (fput σ f V b u) (f + o) (zi l) = some (fput σ f (vs (vs (vs V (o + 2) l (zi (-1))) (o + 3) l (zi (-1))) (o + 4) l (zi 0)) b u) := by
  unfold fX3_clear
  rw [if_neg (by rw [zi_lt (by omega) (by omega) (by omega) (by omega)]; omega), if_neg (zi_nle (by omega) (by omega) (by omega)), lr 1 h ho (by omega), Option.bind_some, fa_wr (o + 2) l h (flen_first ho).2 rfl (by rw [(flen_first ho).1]; exact hl), Option.bind_some, lr 2 h ho (by omega), Option.bind_some, fa_wr (o + 3) l h (flen_last ho).2 rfl (by rw [(flen_last ho).1]; exact hl), Option.bind_some, lr 3 h ho (by omega), Option.bind_some, fa_wr (o + 4) l h (flen_size ho).2 rfl (by rw [(flen_size ho).1]; exact hl), Option.bind_some]
section LC
variable {σ : zS} {f b u o : Nat} {V : Nat → Nat → Int32} {L : Nat → List Nat}
theorem c_take0 {l : Nat} (h : fsh σ f) (ho : fo o) (hL : LL V o L) (hl : l < 30) (he : L l = []) : fX3_takeFirst (fput σ f V b u) (f + o) (zi l) = some (fput σ f V b u, zi (-1)) := by
  unfold fX3_takeFirst
  rw [fc_3 h ho, c_firstOf h ho hL hl, Option.bind_some]
  dsimp only
  rw [c_isList hl, Option.bind_some, if_neg (show ¬ zi 1 = zi 0 from by decide), he]
  dsimp only
  rw [show lhd [] = -1 from rfl, c_isRec (by omega) (by omega), Option.bind_some, decide_eq_false (by omega)]
  exact if_pos rfl
theorem c_take {l r : Nat} {t : List Nat} (h : fsh σ f) (ho : fo o) (hL : LL V o L) (hl : l < 30) (he : L l = r :: t) : ∃ W, fX3_takeFirst (fput σ f V b u) (f + o) (zi l) = some (fput σ f W b u, zi r) ∧ LL W o (qu L l t) ∧ ∀ p, (p ≤ o + 1 ∨ o + 4 < p) → W p = V p := by
  obtain ⟨s1, s2, s3, s4, s5, s6⟩ := hL l hl
  have hr : r < 800 := s5 r (by rw [he]; exact List.mem_cons_self)
  rw [he] at s1 s2 s3 s4 s6
  rw [List.length_cons] at s1 s6
  have go : fX3_takeFirst (fput σ f V b u) (f + o) (zi l) = (if zi t.length = zi 0 then (zck 3 (fput σ f (vs (vs V (o + 2) l (V (o + 1) r)) (o + 4) l (zi t.length)) b u) (f + o) (fX3_clear (fput σ f (vs (vs V (o + 2) l (V (o + 1) r)) (o + 4) l (zi t.length)) b u) (f + o) (zi l))).bind fun c13 => some (c13, zi r) else some (fput σ f (vs (vs V (o + 2) l (V (o + 1) r)) (o + 4) l (zi t.length)) b u, zi r)) := by
    unfold fX3_takeFirst
    rw [fc_3 h ho, c_firstOf h ho hL hl, Option.bind_some]
    dsimp only
    rw [c_isList hl, Option.bind_some, if_neg (show ¬ zi 1 = zi 0 from by decide), he, show lhd (r :: t) = (r : Int) from rfl]
    dsimp only
    rw [c_isRec (by omega) (by omega), Option.bind_some, decide_eq_true (by omega), if_neg (show ¬ zb true = zi 0 from by decide), lr 1 h ho (by omega), Option.bind_some, lr 0 h ho (by omega), Option.bind_some, fa_rd (o + 1) r h (flen_next ho).2 rfl (by rw [(flen_next ho).1]; exact hr), Option.bind_some, fa_wr (o + 2) l h (flen_first ho).2 rfl (by rw [(flen_first ho).1]; exact hl), Option.bind_some, lr 3 h ho (by omega), Option.bind_some, fa_rd (o + 4) l h (flen_size ho).2 rfl (by rw [(flen_size ho).1]; exact hl), Option.bind_some, vs_ne (by omega), s1, zi_sub, show ((t.length + 1 : Nat) : Int) - 1 = (t.length : Int) from by omega, fa_wr (o + 4) l h (flen_size ho).2 rfl (by rw [(flen_size ho).1]; exact hl), Option.bind_some, lr 3 h ho (by omega), Option.bind_some, fa_rd (o + 4) l h (flen_size ho).2 rfl (by rw [(flen_size ho).1]; exact hl), Option.bind_some, vs_at]
  rw [go]
  by_cases e : t = []
  · rw [if_pos (by rw [e]; rfl), fc_3 h ho, c_clear_raw h ho hl, Option.bind_some]
    refine ⟨_, rfl, fun k hk => ?_, fun p hp => ?_⟩
    · by_cases e1 : k = l
      · subst e1
        rw [qu_at, e]
        refine ⟨?_, ?_, ?_, fun i hi => ?_, fun n hn => ?_, Nat.zero_le _⟩
        · rw [vs_at]; rfl
        · rw [vs_ne (by omega), vs_ne (by omega), vs_at]; rfl
        · rw [vs_ne (by omega), vs_at]; rfl
        · cases hi
        · cases hn
      · rw [qu_ne e1]
        refine LLo_congr (hL k hk) (fun n _ => ?_) ?_ ?_ ?_
        · rw [vs_ne (by omega), vs_ne (by omega), vs_ne (by omega), vs_ne (by omega), vs_ne (by omega)]
        · rw [vs_ne (by omega), vs_ne (by omega), vs_ne (by omega), vs_ne (by omega), vs_ne (by omega)]
        · rw [vs_ne (by omega), vs_ne (by omega), vs_ne (by omega), vs_ne (by omega), vs_ne (by omega)]
        · rw [vs_ne (by omega), vs_ne (by omega), vs_ne (by omega), vs_ne (by omega), vs_ne (by omega)]
    · rw [vs_no (by omega), vs_no (by omega), vs_no (by omega), vs_no (by omega), vs_no (by omega)]
  · have hp := List.length_pos_iff.mpr e
    rw [if_neg (by rw [zi_eq (by omega) (by omega) (by omega) (by omega)]; omega)]
    refine ⟨_, rfl, fun k hk => ?_, fun p hp => ?_⟩
    · by_cases e1 : k = l
      · subst e1
        rw [qu_at]
        refine ⟨?_, ?_, ?_, fun i hi => ?_, fun n hn => ?_, by omega⟩
        · rw [vs_at]
        · rw [vs_ne (by omega), vs_at]
          have := s4 0 (by rw [List.length_cons]; omega)
          refine Eq.trans this ?_
          cases t with
          | nil => exact absurd rfl e
          | cons a t => rfl
        · rw [vs_ne (by omega), vs_ne (by omega), s3, llt_tail e]
        · rw [vs_ne (by omega), vs_ne (by omega)]
          exact s4 (i + 1) (by rw [List.length_cons]; omega)
        · exact s5 n (by rw [he]; exact List.mem_cons_of_mem _ hn)
      · rw [qu_ne e1]
        refine LLo_congr (hL k hk) (fun n _ => ?_) ?_ ?_ ?_
        · rw [vs_ne (by omega), vs_ne (by omega)]
        · rw [vs_ne (by omega), vs_ne (by omega)]
        · rw [vs_ne (by omega), vs_ne (by omega)]
        · rw [vs_ne (by omega), vs_ne (by omega)]
    · rw [vs_no (by omega), vs_no (by omega)]
theorem getD_cat1 {L K : List Nat} {i : Nat} (h : i < L.length) : (L ++ K).getD i 0 = L.getD i 0 := by
  rw [List.getD_eq_getElem?_getD, List.getElem?_append_left h, List.getD_eq_getElem?_getD]
theorem getD_cat2 {L K : List Nat} {i : Nat} (h : L.length ≤ i) : (L ++ K).getD i 0 = K.getD (i - L.length) 0 := by
  rw [List.getD_eq_getElem?_getD, List.getElem?_append_right h, List.getD_eq_getElem?_getD]
theorem lhd_getD {L : List Nat} (h : L ≠ []) : lhd L = (L.getD 0 0 : Nat) := by
  cases L with
  | nil => exact absurd rfl h
  | cons a t => rfl
theorem c_moves0 {l m : Nat} (h : fsh σ f) (ho : fo o) (hL : LL V o L) (hl : l < 30) (hm : m < 30) (hlm : l ≠ m) (he : L l = []) : fX3_moveAll (fput σ f V b u) (f + o) (zi l) (zi m) = some (fput σ f V b u) := by
  unfold fX3_moveAll
  rw [c_isList hl, Option.bind_some, if_neg (show ¬ zi 1 = zi 0 from by decide)]
  dsimp only
  rw [c_isList hm, Option.bind_some, if_neg (show ¬ zi 1 = zi 0 from by decide)]
  dsimp only
  rw [if_neg (by rw [zi_eq (by omega) (by omega) (by omega) (by omega)]; omega), lr 3 h ho (by omega), Option.bind_some, fa_rd (o + 4) l h (flen_size ho).2 rfl (by rw [(flen_size ho).1]; exact hl), Option.bind_some, (hL l hl).1, if_pos (by rw [he]; rfl)]
theorem c_moves {l m : Nat} (h : fsh σ f) (ho : fo o) (hL : LL V o L) (hD : LD L) (hl : l < 30) (hm : m < 30) (hlm : l ≠ m) (hlen : (L m).length + (L l).length ≤ 800) : ∃ W, fX3_moveAll (fput σ f V b u) (f + o) (zi l) (zi m) = some (fput σ f W b u) ∧ LL W o (qu (qu L m (L m ++ L l)) l []) ∧ ∀ p, (p ≤ o ∨ o + 4 < p) → W p = V p := by
  by_cases hz : L l = []
  · refine ⟨V, c_moves0 h ho hL hl hm hlm hz, fun k hk => ?_, fun p _ => rfl⟩
    by_cases e1 : k = l
    · subst e1
      rw [qu_at, ← hz]
      exact hL k hk
    · rw [qu_ne e1]
      by_cases e2 : k = m
      · subst e2
        rw [qu_at, hz, List.append_nil]
        exact hL k hk
      · rw [qu_ne e2]
        exact hL k hk
  · obtain ⟨s1, s2, s3, s4, s5, s6⟩ := hL l hl
    obtain ⟨t1, t2, t3, t4, t5, t6⟩ := hL m hm
    have hp := List.length_pos_iff.mpr hz
    have ht := llt_in t5
    have fin : ∀ X : Nat → Nat → Int32, (∀ p, p ≠ o + 1 → p ≠ o + 2 → X p = V p) → (∀ k, k < 30 → k ≠ m → X (o + 2) k = V (o + 2) k) → X (o + 2) m = zi (lhd (L m ++ L l)) → (∀ n, (L m = [] ∨ n ≠ (L m).getD ((L m).length - 1) 0) → X (o + 1) n = V (o + 1) n) → (L m ≠ [] → X (o + 1) ((L m).getD ((L m).length - 1) 0) = zi (lhd (L l))) →
        ∃ W, jX3_moveAll_70 (fput σ f X b u) (f + o) (zi l) (zi m) = some (fput σ f W b u) ∧ LL W o (qu (qu L m (L m ++ L l)) l []) ∧ ∀ p, (p ≤ o ∨ o + 4 < p) → W p = V p := by
      intro X x1 x2 x3 x4 x5
      refine ⟨vs (vs (vs (vs (vs X (o + 3) m (zi (llt (L l)))) (o + 4) m (zi (((L m).length : Nat) + ((L l).length : Nat)))) (o + 2) l (zi (-1))) (o + 3) l (zi (-1))) (o + 4) l (zi 0), ?_, fun k hk => ?_, fun p hp => ?_⟩
      · unfold jX3_moveAll_70
        rw [lr 2 h ho (by omega), Option.bind_some, Option.bind_some, fa_rd (o + 3) l h (flen_last ho).2 rfl (by rw [(flen_last ho).1]; exact hl), Option.bind_some, x1 _ (by omega) (by omega), s3, fa_wr (o + 3) m h (flen_last ho).2 rfl (by rw [(flen_last ho).1]; exact hm), Option.bind_some, lr 3 h ho (by omega), Option.bind_some, fa_rd (o + 4) m h (flen_size ho).2 rfl (by rw [(flen_size ho).1]; exact hm), Option.bind_some, Option.bind_some, fa_rd (o + 4) l h (flen_size ho).2 rfl (by rw [(flen_size ho).1]; exact hl), Option.bind_some, vs_ne (by omega), vs_ne (by omega), x1 _ (by omega) (by omega), s1, t1, zi_add, fa_wr (o + 4) m h (flen_size ho).2 rfl (by rw [(flen_size ho).1]; exact hm), Option.bind_some, fc_3 h ho, c_clear_raw h ho hl, Option.bind_some]
      · by_cases e1 : k = l
        · subst e1
          rw [qu_at]
          refine ⟨?_, ?_, ?_, fun i hi => ?_, fun n hn => ?_, Nat.zero_le _⟩
          · rw [vs_at]; rfl
          · rw [vs_ne (by omega), vs_ne (by omega), vs_at]; rfl
          · rw [vs_ne (by omega), vs_at]; rfl
          · cases hi
          · cases hn
        · rw [qu_ne e1]
          by_cases e2 : k = m
          · subst e2
            rw [qu_at]
            refine ⟨?_, ?_, ?_, fun i hi => ?_, fun n hn => ?_, ?_⟩
            · rw [vs_ne (by omega), vs_ne (by omega), vs_ne (by omega), vs_at, List.length_append]; rfl
            · rw [vs_ne (by omega), vs_ne (by omega), vs_ne (by omega), vs_ne (by omega), vs_ne (by omega)]; exact x3
            · rw [vs_ne (by omega), vs_ne (by omega), vs_ne (by omega), vs_ne (by omega), vs_at, llt_cat hz]
            · rw [List.length_append] at hi
              rw [vs_ne (by omega), vs_ne (by omega), vs_ne (by omega), vs_ne (by omega), vs_ne (by omega)]
              rcases Nat.lt_trichotomy (i + 1) (L k).length with q | q | q
              · rw [getD_cat1 (by omega), getD_cat1 (by omega), x4 _ (Or.inr (fun q2 => by
                  have := getD_nodup (hD.1 k hk) (by omega) (by omega) q2
                  omega))]
                exact t4 i (by omega)
              · have hne2 : L k ≠ [] := fun q2 => by rw [q2] at q; cases q
                rw [getD_cat1 (by omega), getD_cat2 (by omega), show i = (L k).length - 1 from by omega, x5 hne2, lhd_getD hz, show (L k).length - 1 + 1 - (L k).length = 0 from by omega]
              · rw [getD_cat2 (by omega), getD_cat2 (by omega), x4, s4 _ (by omega), show i - (L k).length + 1 = i + 1 - (L k).length from by omega]
                refine (Classical.em (L k = [])).imp id (fun hne q2 => ?_)
                have hp2 := List.length_pos_iff.mpr hne
                refine e1 (hD.2 k l _ hk hl (getD_mem (L := L k) (i := (L k).length - 1) (by omega)) ?_)
                rw [← q2]
                exact getD_mem (by omega)
            · rw [List.mem_append] at hn
              exact hn.elim (t5 n) (s5 n)
            · rw [List.length_append]; omega
          · rw [qu_ne e2]
            refine LLo_congr (hL k hk) (fun n hn => ?_) ?_ ?_ ?_
            · rw [vs_ne (by omega), vs_ne (by omega), vs_ne (by omega), vs_ne (by omega), vs_ne (by omega)]
              by_cases e3 : L m = []
              · exact x4 n (Or.inl e3)
              · refine x4 n (Or.inr (fun q => e2 ?_))
                have hp2 := List.length_pos_iff.mpr e3
                exact hD.2 k m n hk hm hn (by rw [q]; exact getD_mem (by omega))
            · rw [vs_ne (by omega), vs_ne (by omega), vs_ne (by omega), vs_ne (by omega), vs_ne (by omega)]; exact x2 k hk e2
            · rw [vs_ne (by omega), vs_ne (by omega), vs_ne (by omega), vs_ne (by omega), vs_ne (by omega), x1 _ (by omega) (by omega)]
            · rw [vs_ne (by omega), vs_ne (by omega), vs_ne (by omega), vs_ne (by omega), vs_ne (by omega), x1 _ (by omega) (by omega)]
      · rw [vs_no (by omega), vs_no (by omega), vs_no (by omega), vs_no (by omega), vs_no (by omega)]
        exact x1 p (by omega) (by omega)
    unfold fX3_moveAll
    rw [c_isList hl, Option.bind_some, if_neg (show ¬ zi 1 = zi 0 from by decide)]
    dsimp only
    rw [c_isList hm, Option.bind_some, if_neg (show ¬ zi 1 = zi 0 from by decide)]
    dsimp only
    rw [if_neg (by rw [zi_eq (by omega) (by omega) (by omega) (by omega)]; omega), lr 3 h ho (by omega), Option.bind_some, fa_rd (o + 4) l h (flen_size ho).2 rfl (by rw [(flen_size ho).1]; exact hl), Option.bind_some, s1, if_neg (by rw [zi_eq (by omega) (by omega) (by omega) (by omega)]; omega), lr 2 h ho (by omega), Option.bind_some, fa_rd (o + 3) m h (flen_last ho).2 rfl (by rw [(flen_last ho).1]; exact hm), Option.bind_some, t3, c_isRec (by omega) (by omega), Option.bind_some]
    dsimp only
    rw [zb_if]
    by_cases e : L m = []
    · rw [show llt (L m) = -1 from by rw [e]; rfl, if_neg (by decide), lr 1 h ho (by omega), Option.bind_some, Option.bind_some, fa_rd (o + 2) l h (flen_first ho).2 rfl (by rw [(flen_first ho).1]; exact hl), Option.bind_some, s2, fa_wr (o + 2) m h (flen_first ho).2 rfl (by rw [(flen_first ho).1]; exact hm), Option.bind_some]
      refine fin (vs V (o + 2) m (zi (lhd (L l)))) (fun p h1 h2 => vs_no h2) (fun k _ hk => vs_ne (Or.inr hk)) ?_ (fun n _ => vs_ne (by omega)) (fun q => absurd e q)
      rw [vs_at, e]
      rfl
    · have hp2 := List.length_pos_iff.mpr e
      have hlm2 := t5 _ (getD_mem (L := L m) (i := (L m).length - 1) (by omega))
      rw [llt_get e, decide_eq_true (by omega), if_pos rfl, lr 0 h ho (by omega), Option.bind_some, lr 1 h ho (by omega), Option.bind_some, fa_rd (o + 2) l h (flen_first ho).2 rfl (by rw [(flen_first ho).1]; exact hl), Option.bind_some, s2, fa_wr (o + 1) ((L m).getD ((L m).length - 1) 0) h (flen_next ho).2 rfl (by rw [(flen_next ho).1]; exact hlm2), Option.bind_some]
      refine fin (vs V (o + 1) ((L m).getD ((L m).length - 1) 0) (zi (lhd (L l)))) (fun p h1 h2 => vs_no h1) (fun k _ hk => vs_ne (by omega)) ?_ (fun n hn => ?_) (fun _ => vs_at _ _ _ _)
      · rw [vs_ne (by omega), t2, lhd_app e]
      · rcases hn with hn | hn
        · exact absurd hn e
        · exact vs_ne (Or.inr hn)
end LC
