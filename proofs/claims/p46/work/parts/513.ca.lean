/-! A barrier arrives at the class's receiver. -/
theorem gmask_qu {g k : Nat → Int} {x : Nat} {v : Int} (h : ∀ y, y < 4 → k y = qu g x v y) : gmask (qu g x v) = gmask k := gmask_of fun y hy => (h y hy).symm
section KA
variable {σ : zS} {f b u : Nat} {V : Nat → Nat → Int32} {M : qM} {P : qP}
theorem RC_bar {c : Nat} {v : Int} (hC : RC V b M) : RC (vs V 30 c (zi v)) b (qB M c v) := by
  obtain ⟨a0, a1, a2, a3, a4, a5, a6, a7, a8⟩ := hC.2.1
  have wp : ∀ p, p ≠ 30 → vs V 30 c (zi v) p = V p := fun p hp => vs_no hp
  refine RC_own hC ⟨row_of a0 (fun j _ => by rw [wp 0 (by omega)]) (fun j hj => rfl), row_of a1 (fun j _ => by rw [wp 1 (by omega)]) (fun j hj => rfl), row_of a2 (fun j _ => by rw [wp 2 (by omega)]) (fun j hj => rfl), row_of a3 (fun j _ => by rw [wp 3 (by omega)]) (fun j hj => rfl), row_of a4 (fun j _ => by rw [wp 4 (by omega)]) (fun j hj => rfl),
    row_of a5 (fun j _ => by rw [wp 5 (by omega)]) (fun j hj => rfl), row_of a6 (fun j _ => by rw [wp 29 (by omega)]) (fun j hj => rfl), ?_, LL_of2 a8 (fun p p1 p2 => wp p (by omega)) (fun _ _ => rfl)⟩ (fun p p1 p2 => wp p (by omega)) (fun _ _ => rfl) (fun _ _ _ => rfl)
  rw [vs_in]
  exact row_set a7
theorem RC_arr {r x : Nat} (hC : RC V b M) (hr : r < 6) (hx4 : x < 4) : RC (vs V (b + 1) r (zi (gmask (qu (fun x => M.1 (74 + (4 * r + x))) x 1)))) b (qS M (74 + (4 * r + x)) 1) := by
  have hx := hC.1
  have fb := flen_k hx
  have wp : ∀ p, p ≠ b + 1 → vs V (b + 1) r (zi (gmask (qu (fun x => M.1 (74 + (4 * r + x))) x 1))) p = V p := fun p hp => vs_no hp
  have n1 : ∀ k, (k < 74 ∨ 98 ≤ k) → (qS M (74 + (4 * r + x)) 1).1 k = M.1 k := fun k hk => qu_ne (by omega)
  refine ⟨hx, RF_of hC.2.1 (fun j hj => ?_) (fun p hp => wp p (by omega)) (fun k _ _ => n1 k (by omega)) (fun _ _ => rfl) (fun _ _ => rfl), ?_, RL_of hC.2.2.2 (fun p p1 p2 => wp p (by have := fx_far (fx_other hx).1 p1 p2; omega)) (fun k _ _ => n1 k (by omega)) (fun _ _ _ => rfl)⟩
  · rw [wp 0 (by omega), gF_of (M := M) (fun k hk => n1 k (by omega)) hj]
    exact hC.2.1.1 j hj
  · obtain ⟨a0, a1⟩ := hC.2.2.1
    refine ⟨by rw [wp b (by omega), n1 67 (by omega), n1 5 (by omega)]; exact a0, fun e => ?_⟩
    rw [n1 67 (by omega)] at e
    obtain ⟨c1, c3, c4, c5, c6, r1, r2, r3, l⟩ := a1 e
    refine ⟨?_, ?_, ?_, ?_, ?_, fun j hj => ?_, row_of r2 (fun j _ => by rw [wp (b + 2) (by omega)]) (fun j hj => n1 _ (by omega)), row_of r3 (fun j _ => by rw [wp (b + 3) (by omega)]) (fun j hj => n1 _ (by omega)), LL_of2 l (fun p p1 p2 => wp p (by omega)) (fun _ _ => rfl)⟩
    · rw [wp b (by omega), n1 68 (by omega)]; exact c1
    · rw [wp b (by omega), n1 69 (by omega)]; exact c3
    · rw [wp b (by omega)]; exact c4
    · rw [wp b (by omega), c5]; exact congrArg zi (gmask_of fun x hx => (n1 _ (by omega)).symm)
    · rw [wp b (by omega), c6]; rfl
    · by_cases e2 : j = r
      · rw [e2, vs_at]
        refine congrArg zi (gmask_of fun y hy => ?_)
        show _ = qu M.1 (74 + (4 * r + x)) 1 (74 + (4 * r + y))
        by_cases e3 : y = x
        · rw [e3, qu_at, qu_at]
        · rw [qu_ne e3, qu_ne (by omega)]
      · rw [vs_ne (by omega), r1 j hj]
        refine congrArg zi (gmask_of fun y hy => ?_)
        exact (qu_ne (by omega) : qu M.1 (74 + (4 * r + x)) 1 (74 + (4 * j + y)) = M.1 (74 + (4 * j + y))).symm
theorem k_cnt {N : qM} {r : Nat} (hq : qns P N r ≤ 4) (hz : ∀ x, qns P N r ≤ x → x < 4 → N.1 (74 + (4 * r + x)) = 0) : N.1 (74 + (4 * r + 0)) + N.1 (74 + (4 * r + 1)) + N.1 (74 + (4 * r + 2)) + N.1 (74 + (4 * r + 3)) = qcnt P N r := by
  unfold qcnt
  have : qns P N r = 0 ∨ qns P N r = 1 ∨ qns P N r = 2 ∨ qns P N r = 3 ∨ qns P N r = 4 := by omega
  rcases this with e | e | e | e | e
  · rw [hz 0 (by omega) (by omega), hz 1 (by omega) (by omega), hz 2 (by omega) (by omega), hz 3 (by omega) (by omega), e]; rfl
  · rw [hz 1 (by omega) (by omega), hz 2 (by omega) (by omega), hz 3 (by omega) (by omega), e]
    show _ = N.1 (74 + (4 * r + 0)) + 0
    omega
  · rw [hz 2 (by omega) (by omega), hz 3 (by omega) (by omega), e]
    show _ = N.1 (74 + (4 * r + 0)) + (N.1 (74 + (4 * r + 1)) + 0)
    omega
  · rw [hz 3 (by omega) (by omega), e]
    show _ = N.1 (74 + (4 * r + 0)) + (N.1 (74 + (4 * r + 1)) + (N.1 (74 + (4 * r + 2)) + 0))
    omega
  · rw [e]
    show _ = N.1 (74 + (4 * r + 0)) + (N.1 (74 + (4 * r + 1)) + (N.1 (74 + (4 * r + 2)) + (N.1 (74 + (4 * r + 3)) + 0)))
    omega
theorem k_none (hI : qI P M) (e67 : M.1 67 = 1) {r : Nat} (hr : r < 6) {x : Nat} (h1 : qns P M r ≤ x) (hx : x < 4) : M.1 (74 + (4 * r + x)) = 0 := by
  obtain ⟨o69, o70, o74, o144, o98, o5, o68, o7, o8, o9⟩ := (hI.1.2.2.2.2.2.1 e67).1
  rcases o74 (4 * r + x) (by omega) with q | q
  · exact q
  · have := (o8 r x hr hx q).2
    omega
theorem k_flags (hI : qI P M) (e67 : M.1 67 = 1) {r : Nat} (hr : r < 6) : gflags (fun x => M.1 (74 + (4 * r + x))) := fun x hx => (hI.1.2.2.2.2.2.1 e67).1.2.2.1 (4 * r + x) (by omega)
/-- whether none has arrived -/
theorem k_first (hI : qI P M) (e67 : M.1 67 = 1) {r : Nat} (hr : r < 6) : gmask (fun x => M.1 (74 + (4 * r + x))) = 0 ↔ qcnt P M r = 0 := by
  rw [m_zero (k_flags hI e67 hr), ← k_cnt (qns_le hI.1.1 hI.1.2.1 r).1 (fun x h1 h2 => k_none hI e67 hr h1 h2)]
theorem LD_K (hI : qI P M) {o : Nat} (ho : o = 30 ∧ M.1 67 = 1 ∨ o = 54) : LD (gK M o) := by
  have cut : ∀ c n, n ∈ gK M o c → c < 24 ∧ n ∈ M.2.1 (o + c) := fun c n hn => by
    unfold gK at hn
    by_cases e : c < 24
    · rw [if_pos e] at hn; exact ⟨e, hn⟩
    · rw [if_neg e] at hn; exact absurd hn List.not_mem_nil
  refine ⟨fun c _ => ?_, fun c d n _ _ h1 h2 => ?_⟩
  · unfold gK
    by_cases e : c < 24
    · rw [if_pos e]; exact qI_nodupF hI ho e
    · rw [if_neg e]; exact List.nodup_nil
  · obtain ⟨c1, c2⟩ := cut c n h1
    obtain ⟨d1, d2⟩ := cut d n h2
    exact qI_oneF hI ho c1 d1 c2 d2
theorem qcut_comm {r x : Nat} (hr : r < 6) (hx : x < 4) : qcut P r (qS (qB M (4 * r + x) (-1)) (74 + (4 * r + x)) 1) = (qu (qcut P r M).1 (74 + (4 * r + x)) 1, (qcut P r M).2.1, qu (qcut P r M).2.2 (4 * r + x) (-1)) := by
  have hm : qmany (qS (qB M (4 * r + x) (-1)) (74 + (4 * r + x)) 1) = qmany M := congrArg Int.toNat (qu_ne (by omega) : qu M.1 (74 + (4 * r + x)) 1 1 = M.1 1)
  unfold qcut
  rw [hm]
  by_cases e : r < 4
  · rw [if_pos e, if_pos e]
    refine Prod.ext ?_ (Prod.ext rfl ?_)
    · funext k
      show (if 102 ≤ k ∧ k < 118 ∧ qown (k - 102) (qmany M) = r then qu M.1 (74 + (4 * r + x)) 1 (k - 85) else if k = 144 + r then 1 else qu M.1 (74 + (4 * r + x)) 1 k) = qu (fun k => if 102 ≤ k ∧ k < 118 ∧ qown (k - 102) (qmany M) = r then M.1 (k - 85) else if k = 144 + r then 1 else M.1 k) (74 + (4 * r + x)) 1 k
      by_cases e2 : k = 74 + (4 * r + x)
      · rw [e2, qu_at, if_neg (by omega), if_neg (by omega), qu_at]
      · rw [qu_ne e2, qu_ne e2]
        by_cases e3 : 102 ≤ k ∧ k < 118 ∧ qown (k - 102) (qmany M) = r
        · rw [if_pos e3, if_pos e3, qu_ne (by omega)]
        · rw [if_neg e3, if_neg e3]
    · funext c
      show (if 16 ≤ c ∧ c < 16 + 4 * P.2.1 ∧ c % 4 = r then ((M.2.1 c).length : Int) else qu M.2.2 (4 * r + x) (-1) c) = qu (fun c => if 16 ≤ c ∧ c < 16 + 4 * P.2.1 ∧ c % 4 = r then ((M.2.1 c).length : Int) else M.2.2 c) (4 * r + x) (-1) c
      by_cases e2 : c = 4 * r + x
      · rw [e2, if_neg (by omega), qu_at, qu_at]
      · rw [qu_ne e2, qu_ne e2]
  · rw [if_neg e, if_neg e]
    refine Prod.ext ?_ rfl
    funext k
    show qu (qu M.1 (74 + (4 * r + x)) 1) (144 + r) 1 k = qu (qu M.1 (144 + r) 1) (74 + (4 * r + x)) 1 k
    by_cases e2 : k = 74 + (4 * r + x)
    · rw [e2, qu_ne (by omega), qu_at, qu_at]
    · rw [qu_ne e2]
      by_cases e3 : k = 144 + r
      · rw [e3, qu_at, qu_at]
      · rw [qu_ne e3, qu_ne e2, qu_ne e3]
theorem qcut_L {r c : Nat} (hr : r < 6) (hc : c < 24 ∨ 28 ≤ c) : (qcut P r M).2.1 c = M.2.1 c := by
  unfold qcut
  by_cases e : r < 4
  · rw [if_pos e]
  · rw [if_neg e]
    show qu (qu M.2.1 (22 + r) _) (20 + r) [] c = M.2.1 c
    rw [qu_ne (by omega), qu_ne (by omega)]
theorem qcut_S {r k : Nat} (hk : k < 102 ∨ 118 ≤ k ∧ k < 144) : (qcut P r M).1 k = M.1 k := by
  unfold qcut
  by_cases e : r < 4
  · rw [if_pos e]
    dsimp only
    rw [if_neg (by omega), if_neg (by omega)]
  · rw [if_neg e]
    exact qu_ne (by omega)
end KA
