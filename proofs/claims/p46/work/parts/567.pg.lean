/-! The class's setup is finished: the sums behind records; the whole text is read. -/
section PGR
variable {σ τ υ : zS} {X u p w c : Nat} {tx : List Int32} {D : pD} {P : qP}
theorem p_res1 {s key : Nat} {gr : Nat → Prop} {gk : Nat → Prop} (h : SR σ u P) (hs : s < P.1) (hkey : key < 16) (hk4 : key % 4 = s) (hgk : ∀ n, n / 200 = s → n % 200 < P.2.2.1 s → gk n) (k : FK σ u P gk gr τ) (hgr : ∀ n, gr n → n / 200 = s → qkey P n ≠ key) : ∃ υ, zloop (sX7_makeResults_13 u (zi s) (zi key)) zfuel (τ, zi 0, zi 0) = some υ ∧ FK σ u P gk (fun n => gr n ∨ n / 200 = s ∧ n % 200 < P.2.2.1 s ∧ qkey P n = key) υ := by
  have hP := h.2.2.2
  have hr := hP.2.2.2.2.1 s
  have hs4 : s < 4 := by have := hP.2.1; omega
  refine zloop_run (P.2.2.1 s) (fun i z => FK σ u P gk (fun n => gr n ∨ n / 200 = s ∧ n % 200 < i ∧ qkey P n = key) z.1 ∧ z.2.1 = zi (qsum P (qupto P key i)) ∧ z.2.2 = zi (i : Nat)) _ (fun i z hi hp => ?_) (fun z hp => ?_) (zfuel_lt (by omega)) ⟨FK_mono k (fun n _ g => g) (fun n _ g => by rcases g with g | g; exact g; omega), rfl, rfl⟩
  · obtain ⟨z, v1, v2⟩ := z
    obtain ⟨k2, q1, q2⟩ := hp
    dsimp only at k2 q1 q2
    subst q1 q2
    have h3 := FK_SR h k2
    have hkv := k2.2.1 (200 * s + i) (by omega) (hgk _ (by omega) (by omega))
    have hkl : qkey P (200 * s + i) < 16 := qkey_lt (by omega)
    have com : sX7_makeResults_13 u (zi s) (zi key) (z, zi (qsum P (qupto P key i)), zi (i : Nat)) = if zi (qkey P (200 * s + i)) = zi key then some (.inl (zuI z (u + 9) (200 * s + i) (zi ((qsum P (qupto P key i) + qval P (200 * s + i) : Nat) : Int)), zi ((qsum P (qupto P key i) + qval P (200 * s + i) : Nat) : Int), zi ((i + 1 : Nat) : Int))) else some (.inl (z, zi (qsum P (qupto P key i)), zi ((i + 1 : Nat) : Int))) := by
      unfold sX7_makeResults_13 sX7_makeResults_13b fX9_numberOf jX7_makeResults_69_L13
      dsimp only
      rw [sg_r (j := 2) h3.1 (by omega) (by omega), Option.bind_some, zaI_of s h3.1.2.2.1.1 rfl hs4 (by decide), Option.bind_some, (h3.2.2.1 s hs4).1, if_neg (show ¬ zi (P.2.2.1 s : Int) ≤ zi (i : Nat) by rw [zi_le (by omega) (by omega) (by omega) (by omega)]; omega), if_neg (show ¬ zi 200 ≤ zi (i : Nat) by rw [zi_le (by omega) (by omega) (by omega) (by omega)]; omega), Option.bind_some]
      dsimp only
      have g7 : zaI z (u + 7) (zi (200 * (s : Int) + i)) = some (zi (qkey P (200 * s + i))) := by
        rw [zaI_of (200 * s + i) h3.1.2.2.2.1 (by omega) (by omega) (by decide), hkv.1]
      have g8 : zaI z (u + 8) (zi (200 * (s : Int) + i)) = some (zi (qval P (200 * s + i))) := by
        rw [zaI_of (200 * s + i) h3.1.2.2.2.2.1 (by omega) (by omega) (by decide), hkv.2]
      rw [sg_r (j := 8) h3.1 (by omega) (by omega), Option.bind_some, zi_mul, zi_add, g7, Option.bind_some, sg_r (j := 9) h3.1 (by omega) (by omega), Option.bind_some, g8, Option.bind_some, sg_r (j := 10) h3.1 (by omega) (by omega), Option.bind_some, zsI_of (200 * s + i) h3.1.2.2.2.2.2 (by omega) (by omega) (by decide), Option.bind_some, zi_add, zi_add]
      rfl
    rw [com]
    by_cases e : qkey P (200 * s + i) = key
    · rw [if_pos (by rw [e])]
      have hsum : qsum P (qupto P key (i + 1)) = qsum P (qupto P key i) + qval P (200 * s + i) := by
        rw [qupto_succ, hk4, qf_pos e, qsum_app, qsum_one]
      refine Or.inl ⟨_, rfl, ⟨⟨k2.1.1, k2.1.2.1, fun a a1 a2 a3 => ?_⟩, fun n hn g => ?_, fun n hn g => ?_⟩, by rw [hsum], rfl⟩
      · rw [show (zuI z (u + 9) (200 * s + i) (zi ((qsum P (qupto P key i) + qval P (200 * s + i) : Nat) : Int))).2.1 a = z.2.1 a from zu_off _ _ _ a3]
        exact k2.1.2.2 a a1 a2 a3
      · rw [zuI_row, if_neg (by omega), zuI_row, if_neg (by omega)]
        exact k2.2.1 n hn g
      · rw [zuI_row]
        by_cases e2 : n = 200 * s + i
        · subst e2
          rw [if_pos ⟨rfl, rfl⟩]
          unfold qres
          rw [e, show (200 * s + i) % 200 = i by omega, hsum]
        · rw [if_neg (fun q => e2 q.2)]
          refine k2.2.2 n hn ?_
          rcases g with g | g
          · exact Or.inl g
          · exact Or.inr ⟨g.1, by omega, g.2.2⟩
    · rw [if_neg (show ¬ zi (qkey P (200 * s + i) : Int) = zi (key : Int) by rw [zi_eq (by omega) (by omega) (by omega) (by omega)]; omega)]
      have hsum : qsum P (qupto P key (i + 1)) = qsum P (qupto P key i) := by
        rw [qupto_succ, hk4, qf_neg e, List.append_nil]
      refine Or.inl ⟨_, rfl, FK_mono k2 (fun n _ g => g) (fun n hn g => ?_), by rw [hsum], rfl⟩
      rcases g with g | g
      · exact Or.inl g
      · refine Or.inr ⟨g.1, ?_, g.2.2⟩
        by_cases e2 : n = 200 * s + i
        · subst e2
          exact absurd g.2.2 e
        · omega
  · obtain ⟨z, v1, v2⟩ := z
    obtain ⟨k2, q1, q2⟩ := hp
    dsimp only at k2 q1 q2
    subst q1 q2
    have h3 := FK_SR h k2
    refine ⟨z, ?_, k2⟩
    unfold sX7_makeResults_13 sX7_makeResults_13b
    dsimp only
    rw [sg_r (j := 2) h3.1 (by omega) (by omega), Option.bind_some, zaI_of s h3.1.2.2.1.1 rfl hs4 (by decide), Option.bind_some, (h3.2.2.1 s hs4).1, if_pos ((zi_le (by omega) (by omega) (by omega) (by omega)).2 (by omega))]
theorem p_res {s : Nat} {gk gr : Nat → Prop} (h : SR σ u P) (hs : s < P.1) (hgk : ∀ n, n / 200 = s → n % 200 < P.2.2.1 s → gk n) (k : FK σ u P gk gr τ) (hgr : ∀ n, gr n → n / 200 < s) : ∃ υ, fX7_makeResults τ u (zi s) = some υ ∧ FK σ u P gk (fun n => gr n ∨ n / 200 = s ∧ n % 200 < P.2.2.1 s) υ := by
  have hP := h.2.2.2
  have hs4 : s < 4 := by have := hP.2.1; omega
  unfold fX7_makeResults
  obtain ⟨o, e1, e2⟩ := zloop_run (step := sX7_makeResults_2 u (zi s)) (fuel := zfuel) 4 (fun i z => FK σ u P gk (fun n => gr n ∨ n / 200 = s ∧ n % 200 < P.2.2.1 s ∧ qkey P n < s + 4 * i) z.1 ∧ z.2 = zi ((s + 4 * i : Nat) : Int)) (fun o => FK σ u P gk (fun n => gr n ∨ n / 200 = s ∧ n % 200 < P.2.2.1 s) o) (fun i z hi hp => by
    obtain ⟨z, v⟩ := z
    obtain ⟨k2, q⟩ := hp
    dsimp only at k2 q
    subst q
    obtain ⟨y, e1, e2⟩ := p_res1 (key := s + 4 * i) h hs (by omega) (by omega) hgk k2 (fun n g g2 => by
      rcases g with g | g
      · have := hgr n g
        omega
      · omega)
    refine Or.inl ⟨(y, zi ((s + 4 * (i + 1) : Nat) : Int)), ?_, FK_mono e2 (fun n _ g => g) (fun n hn g => ?_), rfl⟩
    · unfold sX7_makeResults_2 sX7_makeResults_2b jX7_makeResults_75_L2
      dsimp only
      rw [if_neg (show ¬ zi 16 ≤ zi ((s + 4 * i : Nat) : Int) by rw [zi_le (by omega) (by omega) (by omega) (by omega)]; omega), e1, Option.bind_some, zi_add]
      rfl
    · rcases g with g | g
      · exact Or.inl (Or.inl g)
      · have hm := qkey_mod (P := P) hn
        by_cases e : qkey P n < s + 4 * i
        · exact Or.inl (Or.inr ⟨g.1, g.2.1, e⟩)
        · exact Or.inr ⟨g.1, g.2.1, by omega⟩) (fun z hp => by
    obtain ⟨z, v⟩ := z
    obtain ⟨k2, q⟩ := hp
    dsimp only at k2 q
    subst q
    refine ⟨z, ?_, FK_mono k2 (fun n _ g => g) (fun n hn g => ?_)⟩
    · unfold sX7_makeResults_2 sX7_makeResults_2b
      dsimp only
      rw [if_pos ((zi_le (by omega) (by omega) (by omega) (by omega)).2 (by omega))]
    · rcases g with g | g
      · exact Or.inl g
      · have := qkey_lt (P := P) hn
        exact Or.inr ⟨g.1, g.2, by omega⟩) (by decide) (s := (τ, zi s)) ⟨FK_mono k (fun n _ g => g) (fun n hn g => by
      rcases g with g | g
      · exact g
      · have := qkey_mod (P := P) hn
        omega), rfl⟩
  rw [e1]
  exact ⟨o, rfl, e2⟩
/-- what a draft says of the flow's setup -/
def pP (D : pD) : qP := (D.1, (pse0 D 5).toNat, D.2.1, D.2.2.1)
theorem p_finish (hs : sush τ u) (hD : PD τ u D) (hv : ∀ k v, D.2.2.2.2.2 k = some v → v < 1000) (h5 : 1 ≤ pse0 D 5 ∧ pse0 D 5 ≤ 2) (hP : qPok (pP D)) : ∃ υ, fX7_finish τ u = some υ ∧ (υ.1 = τ.1 ∧ υ.2.2 = τ.2.2 ∧ (∀ a, (a < u ∨ u + 10 ≤ a) → υ.2.1 a = τ.2.1 a)) ∧ SU υ u (pP D) ∧ PD υ u D := by
  have e5 : zi (pse0 D 5) = zi ((pP D).2.1 : Nat) := by
    congr 1
    unfold pP
    dsimp only
    omega
  have hd4 : (pP D).1 ≤ 4 := hD.1.1
  have hd4b : (pP D).1 = D.1 := rfl
  have hSR : SR (zuI τ u 1 (zi (pse0 D 5))) u (pP D) := by
    refine ⟨hs, ?_, fun s hs4 => ?_, hP⟩
    · rw [zuI_rd, if_neg (by omega)]
      exact hD.1.2
    · rw [zuI_row, if_neg (by omega), zuI_row, if_neg (by omega)]
      exact ⟨(hD.2.1 s hs4).1, (hD.2.1 s hs4).2.1⟩
  unfold fX7_finish
  rw [p_chosen hs hD (by omega) (by omega) hv, show ∀ o : Option (zS × Int32), zck 7 τ u o = o from fun o => if_pos hs.1, Option.bind_some, show zpI 7 1 τ u (zi (pse0 D 5)) = some (zuI τ u 1 (zi (pse0 D 5))) from if_pos hs.1, Option.bind_some]
  obtain ⟨o, e1, e2⟩ := zloop_run (step := sX7_finish_13 u) (fuel := zfuel) D.1 (fun i z => FK (zuI τ u 1 (zi (pse0 D 5))) u (pP D) (fun n => n / 200 < i ∧ n % 200 < (pP D).2.2.1 (n / 200)) (fun n => n / 200 < i ∧ n % 200 < (pP D).2.2.1 (n / 200)) z.1 ∧ z.2 = zi (i : Nat)) (fun o => FK (zuI τ u 1 (zi (pse0 D 5))) u (pP D) (fun n => n / 200 < D.1 ∧ n % 200 < (pP D).2.2.1 (n / 200)) (fun n => n / 200 < D.1 ∧ n % 200 < (pP D).2.2.1 (n / 200)) o) (fun i z hi hp => by
    obtain ⟨z, v⟩ := z
    obtain ⟨k2, q⟩ := hp
    dsimp only at k2 q
    subst q
    have h3 := FK_SR hSR k2
    have hk : ∀ (t : zS), sush t u → ∀ o : Option zS, zck 7 t u o = o := fun t ht o => if_pos ht.1
    obtain ⟨y1, e1, k3⟩ := p_recs (s := i) hSR (by omega) k2
    obtain ⟨y2, e2, k4⟩ := p_res (s := i) hSR (by omega) (fun n n1 n2 => Or.inr ⟨n1, n2⟩) k3 (fun n g => g.1)
    refine Or.inl ⟨(y2, zi ((i + 1 : Nat) : Int)), ?_, FK_mono k4 (fun n hn g => ?_) (fun n hn g => ?_), rfl⟩
    · unfold sX7_finish_13 sX7_finish_13b
      dsimp only
      rw [sg_i h3.1, Option.bind_some, h3.2.1, if_neg (show ¬ zi ((pP D).1 : Int) ≤ zi (i : Nat) by rw [zi_le (by omega) (by omega) (by omega) (by omega)]; omega), hk _ h3.1, e1, Option.bind_some, hk _ (FK_SR hSR k3).1, e2, Option.bind_some, zi_add]
      rfl
    · by_cases e : n / 200 = i
      · exact Or.inr ⟨e, by rw [← e]; exact g.2⟩
      · exact Or.inl ⟨by omega, g.2⟩
    · by_cases e : n / 200 = i
      · exact Or.inr ⟨e, by rw [← e]; exact g.2⟩
      · exact Or.inl ⟨by omega, g.2⟩) (fun z hp => by
    obtain ⟨z, v⟩ := z
    obtain ⟨k2, q⟩ := hp
    dsimp only at k2 q
    subst q
    have h3 := FK_SR hSR k2
    refine ⟨z, ?_, k2⟩
    unfold sX7_finish_13 sX7_finish_13b
    dsimp only
    rw [sg_i h3.1, Option.bind_some, h3.2.1]
    exact if_pos ((zi_le (by have := hd4; omega) (by have := hd4; omega) (by have := hd4; omega) (by have := hd4; omega)).2 (Int.le_refl _))) (zfuel_lt (by have := hd4; omega)) (s := (zuI τ u 1 (zi (pse0 D 5)), zi 0)) ⟨⟨⟨rfl, rfl, fun _ _ _ _ => rfl⟩, fun n _ g => absurd g.1 (by omega), fun n _ g => absurd g.1 (by omega)⟩, rfl⟩
  rw [e1]
  have h4 := FK_SR hSR e2
  obtain ⟨⟨f1, f2, f3⟩, f4, f5⟩ := e2
  have hlt : ∀ n, n % 200 < (pP D).2.2.1 (n / 200) → n / 200 < D.1 := fun n hn => by
    by_cases e : n / 200 < D.1
    · exact e
    · have := hP.2.2.2.2.2.1 (n / 200) (by omega)
      omega
  have r : ∀ a, a ≠ u + 7 → a ≠ u + 8 → a ≠ u + 9 → a ≠ u → o.2.1 a = τ.2.1 a := fun a a1 a2 a3 a4 => by
    rw [f3 a a1 a2 a3]
    exact zu_off _ _ _ a4
  refine ⟨o, rfl, ⟨f1, f2, fun a ha => r a (by omega) (by omega) (by omega) (by omega)⟩, ⟨h4.1.1, h4.2.1, ?_, h4.1.2.1, ⟨h4.1.2.2.1.1, fun s hs4 => (h4.2.2.1 s hs4).1⟩, ⟨h4.1.2.2.2.1, fun n hn g => (f4 n hn ⟨hlt n g, g⟩).1⟩, ⟨h4.1.2.2.2.2.1, fun n hn g => (f4 n hn ⟨hlt n g, g⟩).2⟩, ⟨h4.1.2.2.2.2.2, fun n hn g => f5 n hn ⟨hlt n g, g⟩⟩⟩, ?_⟩
  · rw [f3 u (by omega) (by omega) (by omega), zuI_rd, if_pos rfl, e5]
  · obtain ⟨⟨a1, a2⟩, a3, a4, a5⟩ := hD
    unfold PD NM
    rw [r (u + 1) (by omega) (by omega) (by omega) (by omega), r (u + 2) (by omega) (by omega) (by omega) (by omega), r (u + 3) (by omega) (by omega) (by omega) (by omega), r (u + 4) (by omega) (by omega) (by omega) (by omega), r (u + 5) (by omega) (by omega) (by omega) (by omega), r (u + 6) (by omega) (by omega) (by omega) (by omega)]
    refine ⟨⟨a1, h4.2.1⟩, a3, a4, a5⟩
end PGR
