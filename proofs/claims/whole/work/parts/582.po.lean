/-! What is printed, as mathematics; the class prints. -/
def pw (k : Nat) : Nat := [1, 10, 100, 1000, 10000, 100000].getD k 0
def dgc (n : Nat) : Nat := if n < 10 then 0 else if n < 100 then 1 else if n < 1000 then 2 else if n < 10000 then 3 else 4
def pdg (n : Nat) : List Int32 := (List.range (dgc n + 1)).map (fun j => zi ((48 + n / pw (dgc n - j) % 10 : Nat) : Int))
def aLine (P : qP) (n : Nat) : List Int32 := [zi 107] ++ pdg (qkey P n) ++ [zi 61] ++ pdg (qres P n) ++ [zi 10]
def aText (P : qP) (l : List Nat) : List Int32 := (l.map (aLine P)).flatten
def aPrint (P : qP) (M : qM) (x : Int) (ou : List Int32) : Int × Int × List Int32 := if 0 ≤ x ∧ x < P.2.1 then (0, (aText P (M.2.1 (28 + x.toNat))).length, aText P (M.2.1 (28 + x.toNat))) else (1, 0, ou)
theorem pw_t : ∀ c, c < 5 → 1 ≤ pw c ∧ pw c ≤ 10000 ∧ pw (c + 1) = 10 * pw c ∧ ∀ j, j ≤ c → pw (c - j) / 10 = (if j + 1 ≤ c then pw (c - (j + 1)) else 0) := by decide
theorem dgc_t {n : Nat} (h : n < 100000) : dgc n < 5 ∧ n < pw (dgc n + 1) ∧ ∀ i, i < dgc n → pw (i + 1) ≤ n := by
  unfold dgc
  have p1 : pw (0 + 1) = 10 := rfl
  have p2 : pw (1 + 1) = 100 := rfl
  have p3 : pw (2 + 1) = 1000 := rfl
  have p4 : pw (3 + 1) = 10000 := rfl
  have p5 : pw (4 + 1) = 100000 := rfl
  split
  · exact ⟨by omega, by omega, fun i hi => by omega⟩
  · split
    · exact ⟨by omega, by omega, fun i hi => by rw [show i = 0 by omega]; omega⟩
    · split
      · refine ⟨by omega, by omega, fun i hi => ?_⟩
        have : i = 0 ∨ i = 1 := by omega
        rcases this with rfl | rfl <;> omega
      · split
        · refine ⟨by omega, by omega, fun i hi => ?_⟩
          have : i = 0 ∨ i = 1 ∨ i = 2 := by omega
          rcases this with rfl | rfl | rfl <;> omega
        · refine ⟨by omega, by omega, fun i hi => ?_⟩
          have : i = 0 ∨ i = 1 ∨ i = 2 ∨ i = 3 := by omega
          rcases this with rfl | rfl | rfl | rfl <;> omega
theorem pdg_len {n : Nat} : (pdg n).length = dgc n + 1 := by
  unfold pdg
  rw [List.length_map, List.length_range]
theorem b8_zi : ∀ n : Nat, n < 128 → b8 (zi n) = zi n := by decide
theorem aLine_len {P : qP} {n : Nat} (hn : n < 800) : (aLine P n).length ≤ 10 := by
  unfold aLine
  simp only [List.length_append, List.length_cons, List.length_nil, pdg_len]
  have h1 := qkey_lt (P := P) hn
  have h2 := qres_lt (P := P) hn
  have d1 : dgc (qkey P n) ≤ 1 := by
    unfold dgc
    split
    · omega
    · rw [if_pos (by omega)]
      omega
  have d2 := (dgc_t (n := qres P n) (by omega)).1
  omega
theorem aText_len {P : qP} : ∀ {l : List Nat}, (∀ n, n ∈ l → n < 800) → (aText P l).length ≤ 10 * l.length
  | [], _ => Nat.zero_le _
  | n :: l, h => by
    have h1 := aLine_len (P := P) (h n List.mem_cons_self)
    have h2 := aText_len (P := P) (l := l) (fun k hk => h k (List.mem_cons_of_mem n hk))
    unfold aText at h2 ⊢
    rw [List.map_cons, List.flatten_cons, List.length_append, List.length_cons]
    omega
theorem aText_take {P : qP} {l : List Nat} {t : Nat} (h : t < l.length) : aText P (l.take (t + 1)) = aText P (l.take t) ++ aLine P (l.getD t 0) := by
  unfold aText
  rw [List.take_succ_eq_append_getElem h, List.map_append, List.flatten_append, List.getD_eq_getElem?_getD, List.getElem?_eq_getElem h]
  simp
section PO
variable {σ τ : zS} {X w b sz q : Nat} {P : qP} {M : qM} {H : List qM} {S : Option qM} {nm : Nat → List Int32} {tx ou o : List Int32} {er ea : Int} {V : Nat → Nat → Int32} {sv : Bool}
/-- what printing does to the class -/
def OA (σ τ : zS) (X : Nat) (o : List Int32) : Prop := τ.1 = σ.1 ∧ τ.2.2 = σ.2.2 ∧ (∀ a, a ≠ X + 4 → a ≠ X + 5 → τ.2.1 a = σ.2.1 a) ∧ τ.2.1 (X + 4) 1 = zi o.length ∧ o.length ≤ 8000 ∧ ∀ i, i < o.length → τ.2.1 (X + 5) i = o.getD i 0
theorem co_add {v : Nat} (hs : csh σ X) (h : OA σ τ X o) (hl : o.length < 8000) (hv : v < 128) : ∃ υ, fX4_add τ (X + 4) (zi v) = some υ ∧ OA σ υ X (o ++ [zi v]) := by
  obtain ⟨h1, h2, h3, h4, h5, h6⟩ := h
  obtain ⟨-, -, -, -, ⟨k1, k2, k3⟩, -⟩ := hs
  have hb := b8_zi v hv
  have g1 : zgI 4 1 τ (X + 4) = some (zi o.length) := by
    rw [show zgI 4 1 τ (X + 4) = some (τ.2.1 (X + 4) 1) from if_pos (by rw [h1]; exact k1), h4]
  have g2 : zgR 4 0 τ (X + 4) = some (X + 5) := by
    rw [show zgR 4 0 τ (X + 4) = τ.2.2.1 (X + 4) 0 from if_pos (by rw [h1]; exact k1), h2]
    exact k2
  have g3 : zlen τ (X + 5) = some (zi 8000) := by
    unfold zlen
    rw [h1, k3, if_neg (by decide)]
    rfl
  have g4 : zsB τ (X + 5) (zi o.length) (zi (v : Nat)).toInt8.toInt32 = some (zuI τ (X + 5) o.length (zi v)) := by
    rw [zsB_of o.length (by rw [h1]; exact k3) rfl hl (by decide)]
    unfold b8 at hb ⊢
    rw [hb, hb]
  have g5 : zgI 4 1 (zuI τ (X + 5) o.length (zi v)) (X + 4) = some (zi o.length) := by
    rw [show zgI 4 1 (zuI τ (X + 5) o.length (zi v)) (X + 4) = some ((zuI τ (X + 5) o.length (zi v)).2.1 (X + 4) 1) from if_pos (by rw [show (zuI τ (X + 5) o.length (zi v)).1 = τ.1 from rfl, h1]; exact k1), show (zuI τ (X + 5) o.length (zi v)).2.1 (X + 4) = τ.2.1 (X + 4) from zu_off _ _ _ (by omega), h4]
  refine ⟨zuI (zuI τ (X + 5) o.length (zi v)) (X + 4) 1 (zi (o.length + 1)), ?_, h1, h2, fun a n1 n2 => ?_, ?_, ?_, fun i hi => ?_⟩
  · unfold fX4_add
    simp only [g1, g2, g3, g4, g5, Option.bind_some, zi_lt (show (-2147483648 : Int) ≤ o.length by omega) (show (o.length : Int) < 2147483648 by omega) (show (-2147483648 : Int) ≤ 0 by omega) (show (0 : Int) < 2147483648 by omega), zi_le (show (-2147483648 : Int) ≤ 8000 by omega) (show (8000 : Int) < 2147483648 by omega) (show (-2147483648 : Int) ≤ o.length by omega) (show (o.length : Int) < 2147483648 by omega)]
    rw [if_neg (by omega), if_neg (by omega), zi_add, show zpI 4 1 (zuI τ (X + 5) o.length (zi v)) (X + 4) (zi (o.length + 1)) = some (zuI (zuI τ (X + 5) o.length (zi v)) (X + 4) 1 (zi (o.length + 1))) from if_pos (by rw [show (zuI τ (X + 5) o.length (zi v)).1 = τ.1 from rfl, h1]; exact k1)]
    rfl
  · rw [show (zuI (zuI τ (X + 5) o.length (zi v)) (X + 4) 1 (zi (o.length + 1))).2.1 a = (zuI τ (X + 5) o.length (zi v)).2.1 a from zu_off _ _ _ n1, show (zuI τ (X + 5) o.length (zi v)).2.1 a = τ.2.1 a from zu_off _ _ _ n2]
    exact h3 a n1 n2
  · rw [zuI_rd, if_pos rfl, List.length_append, List.length_singleton, Int.natCast_add]
    rfl
  · rw [List.length_append, List.length_singleton]
    omega
  · rw [show (zuI (zuI τ (X + 5) o.length (zi v)) (X + 4) 1 (zi (o.length + 1))).2.1 (X + 5) = (zuI τ (X + 5) o.length (zi v)).2.1 (X + 5) from zu_off _ _ _ (by omega), zuI_rd]
    rw [List.length_append, List.length_singleton] at hi
    by_cases e : i = o.length
    · subst e
      rw [if_pos rfl, gD_end]
    · rw [if_neg e, gD_app (by omega)]
      exact h6 i (by omega)
theorem OA_4 {A : Type} {f : Option A} (hs : csh σ X) (h : OA σ τ X o) : zck 4 τ (X + 4) f = f := if_pos (by rw [h.1]; exact hs.2.2.2.2.1.1)
theorem co_num {n : Nat} (hs : csh σ X) (h : OA σ τ X o) (hn : n < 100000) (hl : o.length + dgc n < 8000) : ∃ υ, fX4_addNumber τ (X + 4) (zi n) = some υ ∧ OA σ υ X (o ++ pdg n) := by
  obtain ⟨d1, d2, d3⟩ := dgc_t hn
  obtain ⟨c1, c2, c3, c4⟩ := pw_t (dgc n) d1
  unfold fX4_addNumber
  obtain ⟨x, e1, rfl⟩ := zloop_run (step := sX4_addNumber_4 (X + 4) (zi n)) (fuel := zfuel) (dgc n) (fun i s => s = (τ, zi (pw i : Nat), zi ((1 + i : Nat) : Int))) (fun x => x = (τ, zi (pw (dgc n) : Nat))) (fun i s hi hp => by
    subst hp
    obtain ⟨p1, p2, p3, -⟩ := pw_t i (by omega)
    have := d3 i hi
    refine Or.inl ⟨(τ, zi (pw (i + 1) : Nat), zi ((1 + (i + 1) : Nat) : Int)), ?_, rfl⟩
    unfold sX4_addNumber_4 sX4_addNumber_4b
    dsimp only
    rw [if_neg (show ¬ zi 9 ≤ zi ((1 + i : Nat) : Int) by rw [zi_le (by omega) (by omega) (by omega) (by omega)]; omega), zi_div (by omega) (by omega) (by omega) (by omega), if_neg (show ¬ zi ((n : Int) / 10) < zi (pw i : Nat) by rw [zi_lt (by omega) (by omega) (by omega) (by omega)]; omega), zi_mul, zi_add, p3]
    congr 4
    congr 1
    omega) (fun s hp => by
    subst hp
    refine ⟨_, ?_, rfl⟩
    unfold sX4_addNumber_4 sX4_addNumber_4b
    dsimp only
    rw [if_neg (show ¬ zi 9 ≤ zi ((1 + dgc n : Nat) : Int) by rw [zi_le (by omega) (by omega) (by omega) (by omega)]; omega), zi_div (by omega) (by omega) (by omega) (by omega), if_pos ((zi_lt (by omega) (by omega) (by omega) (by omega)).2 (show (n : Int) / 10 < (pw (dgc n) : Nat) by omega))]) (zfuel_lt (by omega)) (s := (τ, zi 1, zi 1)) rfl
  rw [e1, Option.bind_some]
  unfold jX4_addNumber_29
  dsimp only
  obtain ⟨y, e2, e3⟩ := zloop_run (step := sX4_addNumber_29 (X + 4) (zi n)) (fuel := zfuel) (dgc n + 1) (fun j s => OA σ s.1 X (o ++ (List.range j).map (fun j => zi ((48 + n / pw (dgc n - j) % 10 : Nat) : Int))) ∧ s.2 = zi ((if j ≤ dgc n then pw (dgc n - j) else 0 : Nat) : Int)) (fun y => OA σ y X (o ++ pdg n)) (fun j s hj hp => by
    obtain ⟨s, v⟩ := s
    obtain ⟨q1, q2⟩ := hp
    dsimp only at q1 q2
    subst q2
    obtain ⟨p1, p2, -, -⟩ := pw_t (dgc n - j) (by omega)
    have c5 := c4 j (by omega)
    obtain ⟨υ, u1, u2⟩ := co_add (v := 48 + n / pw (dgc n - j) % 10) hs q1 (by rw [List.length_append, List.length_map, List.length_range]; omega) (by omega)
    refine Or.inl ⟨(υ, zi ((if j + 1 ≤ dgc n then pw (dgc n - (j + 1)) else 0 : Nat) : Int)), ?_, ?_, rfl⟩
    · unfold sX4_addNumber_29 sX4_addNumber_29b
      dsimp only
      rw [if_pos (show j ≤ dgc n by omega), if_neg (show ¬ zi (pw (dgc n - j) : Nat) ≤ zi 0 by rw [zi_le (by omega) (by omega) (by omega) (by omega)]; omega), show znz (zi (pw (dgc n - j) : Nat)) = some () from if_neg (by rw [show ((0 : Int32) = zi 0) from rfl, zi_eq (by omega) (by omega) (by omega) (by omega)]; omega), Option.bind_some, OA_4 hs q1]
      have hq : n / pw (dgc n - j) ≤ n := Nat.div_le_self _ _
      have hd : zi (n : Int) / zi (pw (dgc n - j) : Nat) = zi ((n / pw (dgc n - j) : Nat) : Int) := by
        rw [zi_div (a := (n : Int)) (b := (pw (dgc n - j) : Nat)) (by omega) (by omega) (by omega) (by omega), ← Int.natCast_ediv]
      rw [hd]
      generalize n / pw (dgc n - j) = t at *
      rw [zi_mod (by omega) (by omega) (by omega) (by omega), zi_add, show (48 : Int) + (t : Int) % 10 = ((48 + t % 10 : Nat) : Int) by omega, u1, Option.bind_some, zi_div (by omega) (by omega) (by omega) (by omega), show ((pw (dgc n - j) : Nat) : Int) / 10 = ((pw (dgc n - j) / 10 : Nat) : Int) by omega, c5]
    · rw [List.range_succ, List.map_append, ← List.append_assoc]
      exact u2) (fun s hp => by
    obtain ⟨s, v⟩ := s
    obtain ⟨q1, q2⟩ := hp
    dsimp only at q1 q2
    subst q2
    refine ⟨s, ?_, q1⟩
    unfold sX4_addNumber_29 sX4_addNumber_29b
    dsimp only
    rw [if_neg (show ¬ dgc n + 1 ≤ dgc n by omega)]
    exact if_pos (by decide)) (zfuel_lt (by omega)) (s := (τ, zi (pw (dgc n) : Nat))) ⟨by rw [List.range_zero, List.map_nil, List.append_nil]; exact h, by rw [if_pos (Nat.zero_le _), Nat.sub_zero]⟩
  rw [e2]
  exact ⟨y, rfl, e3⟩
theorem OA_zeq {lo hi : Nat} (h : OA σ τ X o) (hd : hi ≤ X + 4 ∨ X + 6 ≤ lo) : zeq σ τ lo hi := fun a h1 h2 => ⟨by rw [h.1], h.2.2.1 a (by omega) (by omega), by rw [h.2.1], by rw [h.2.1]⟩
theorem OA_csh (hs : csh σ X) (h : OA σ τ X o) : csh τ X := csh_eq hs h.1 (fun j _ => by rw [h.2.1]) (fun j a _ => by rw [h.2.1]) (by rw [h.2.1])
theorem OA_CN (hw : w = 6 ∨ w = 16) (h : OA σ τ X o) (hC : CN σ X w V b P M) : CN τ X w V b P M := by
  obtain ⟨c1, c2, c3, c4, c5, c6, c7, c8⟩ := hC
  have hf := fpl_in (X := X) (i := 0) (by omega)
  exact ⟨fis_eq c1 (OA_zeq h (by omega)), c2, c3, c4, fsh_eq c5 (OA_zeq h (by omega)), SU_eq c6 (OA_zeq h (by omega)), c7, c8⟩
theorem ca_print {x : Int} (h : CI σ X P nm M H S tx er ea ou) (hI : qI P M) (hB : KT M) (hx : zin x) : ((aPrint P M x ou).1 = 0 → ∃ τ, fX9_printSink σ X (zi x) = some (τ, zi (aPrint P M x ou).2.1) ∧ CI τ X P nm M H S tx er ea (aPrint P M x ou).2.2 ∧ zfr X (X + 307) σ τ) ∧ ((aPrint P M x ou).1 ≠ 0 → (aPrint P M x ou).2.2 = ou ∧ tX9_printSink σ X (zi x) = some 1) := by
  obtain ⟨w, q, G, hR, hF, h0, hS0, hH⟩ := id h
  obtain ⟨n1, n2⟩ := cq_needSink hR hx
  have hw := hR.2.1
  have hs := hR.1
  unfold aPrint
  by_cases k : 0 ≤ x ∧ x < P.2.1
  · rw [if_pos k]
    refine ⟨fun _ => ?_, fun q => absurd rfl q⟩
    dsimp only
    obtain ⟨m1, -⟩ := n1 k
    obtain ⟨s, rfl⟩ := nat_of k.1
    rw [Int.toNat_natCast]
    obtain ⟨V, b, v, hf, hb, hRC⟩ := hF 0 (by omega)
    obtain ⟨rfl, hC⟩ := hRC M h0
    have hCN : CN σ X w V b P M := ⟨hf, hC, hI, hB, CR_KS hR hF (by omega)⟩
    have hP := hR.2.2.2.1.2.2
    have hP2 := hP.2.2.2.1
    generalize hl : 28 + s = l
    have hlen := (qI_len hI (c := l) (by omega)).1
    have hmem : ∀ n, n ∈ M.2.1 l → n < 800 := fun n hn => (qI_rec hI (c := l) (by omega) hn).1
    have hLL := hC.2.1.2.2.2.2.2.2.2.2 l (by omega)
    have hout := aText_len (P := P) hmem
    have hk4 : zpI 4 1 σ (X + 4) (zi 0) = some (zuI σ (X + 4) 1 (zi 0)) := if_pos hs.2.2.2.2.1.1
    obtain ⟨s0, hs0⟩ : ∃ s0, s0 = zuI σ (X + 4) 1 (zi 0) := ⟨_, rfl⟩
    have o0 : OA σ s0 X [] := by
      rw [hs0]
      exact ⟨rfl, rfl, fun a a1 _ => zu_off _ _ _ a1, by rw [zuI_rd, if_pos rfl]; rfl, by show 0 ≤ 8000; omega, fun i hi => absurd (show i < 0 from hi) (by omega)⟩
    obtain ⟨y, hy, hq⟩ := zloop_run (step := sX9_printSink_43 X) (s := (s0, zi (lhd (M.2.1 l)), zi (M.2.1 l).length)) (fuel := zfuel) (M.2.1 l).length
      (fun t z => OA σ z.1 X (aText P ((M.2.1 l).take t)) ∧ z.2.2 = zi ((M.2.1 l).length - (t : Int)) ∧ (t < (M.2.1 l).length → z.2.1 = zi ((M.2.1 l).getD t 0 : Nat)))
      (fun y => OA σ y X (aText P (M.2.1 l)))
      (fun t z ht hz => by
        obtain ⟨z, x1, x2⟩ := z
        obtain ⟨g1, g2, g3⟩ := hz
        dsimp only at g1 g2 g3
        subst g2
        have g3 := g3 ht
        subst g3
        have hrec := qI_rec hI (c := l) (by omega) (getD_mem (L := M.2.1 l) (i := t) ht)
        have hk16 := qkey_lt (P := P) hrec.1
        have hres := qres_lt (P := P) hrec.1
        have nx : t + 1 < (M.2.1 l).length → V 7 ((M.2.1 l).getD t 0) = zi ((M.2.1 l).getD (t + 1) 0 : Nat) := fun q => hLL.2.2.2.1 t q
        have hlt := aText_len (P := P) (l := (M.2.1 l).take t) (fun n hn => hmem n (List.mem_of_mem_take hn))
        rw [List.length_take, Nat.min_eq_left (by omega)] at hlt
        have hll := aLine_len (P := P) hrec.1
        have eL := aText_take (P := P) ht
        generalize hn : (M.2.1 l).getD t 0 = n at *
        have hla : (aLine P n).length = 3 + (dgc (qkey P n) + 1) + (dgc (qres P n) + 1) := by
          unfold aLine
          simp only [List.length_append, List.length_cons, List.length_nil, pdg_len]
          omega
        generalize hT : aText P ((M.2.1 l).take t) = T at *
        obtain ⟨z1, e1, o1⟩ := co_add (v := 107) hs g1 (by omega) (by omega)
        obtain ⟨z2, e2, o2⟩ := co_num (n := qkey P n) hs o1 (by omega) (by simp only [List.length_append, List.length_cons, List.length_nil]; omega)
        obtain ⟨z3, e3, o3⟩ := co_add (v := 61) hs o2 (by simp only [List.length_append, List.length_cons, List.length_nil, pdg_len]; omega) (by omega)
        obtain ⟨z4, e4, o4⟩ := co_num (n := qres P n) hs o3 (by omega) (by simp only [List.length_append, List.length_cons, List.length_nil, pdg_len]; omega)
        obtain ⟨z5, e5, o5⟩ := co_add (v := 10) hs o4 (by simp only [List.length_append, List.length_cons, List.length_nil, pdg_len]; omega) (by omega)
        have fin : T ++ [zi ((107 : Nat) : Int)] ++ pdg (qkey P n) ++ [zi ((61 : Nat) : Int)] ++ pdg (qres P n) ++ [zi ((10 : Nat) : Int)] = aText P ((M.2.1 l).take (t + 1)) := by
          rw [eL]
          unfold aLine
          simp only [List.append_assoc]
          rfl
        rw [fin] at o5
        have O := fun (u : zS) (T2 : List Int32) (ho : OA σ u X T2) => (show zgR 8 2 u X = some (X + 4) from cx_ou (OA_csh hs ho))
        have S8 := fun (u : zS) (T2 : List Int32) (ho : OA σ u X T2) => (show zgR 8 8 u X = some (X + w) from cx_r (OA_csh hs ho).1 (by rw [ho.2.1]; exact hR.2.2.1.1))
        have SUe := fun (u : zS) (T2 : List Int32) (ho : OA σ u X T2) => (SU_eq hR.2.2.2.1.1 (OA_zeq ho (by omega)))
        have C5 := OA_CN hw o5 hCN
        refine Or.inl ⟨(z5, V 7 n, zi ((M.2.1 l).length - ((t + 1 : Nat) : Int))), ?_, o5, rfl, nx⟩
        unfold sX9_printSink_43 sX9_printSink_43b
        dsimp only
        rw [if_neg (zi_nle (by omega) (by omega) (by omega)), O _ _ g1, Option.bind_some, OA_4 hs g1, show fX4_add z (X + 4) (zi 107) = some z1 from e1, Option.bind_some, O _ _ o1, Option.bind_some, S8 _ _ o1, Option.bind_some, su_c (SUe _ _ o1), su_key (SUe _ _ o1) hrec.1 hrec.2.1, Option.bind_some]
        dsimp only
        rw [OA_4 hs o1, e2, Option.bind_some, O _ _ o2, Option.bind_some, OA_4 hs o2, show fX4_add z2 (X + 4) (zi 61) = some z3 from e3, Option.bind_some, O _ _ o3, Option.bind_some, S8 _ _ o3, Option.bind_some, su_c (SUe _ _ o3), su_res (SUe _ _ o3) hrec.1 hrec.2.1, Option.bind_some]
        dsimp only
        rw [OA_4 hs o3, e4, Option.bind_some, O _ _ o4, Option.bind_some, OA_4 hs o4, show fX4_add z4 (X + 4) (zi 10) = some z5 from e5, Option.bind_some, cx_now (OA_csh hs o5), Option.bind_some, fi_14 C5.1, Option.bind_some, CN_3 C5, CN_behind C5 hrec.1, Option.bind_some, zi_add (((M.2.1 l).length : Int) - (t : Int)) (-1)]
        rw [show ((M.2.1 l).length : Int) - (t : Int) + -1 = ((M.2.1 l).length : Int) - ((t + 1 : Nat) : Int) from by omega])
      (fun z hz => by
        obtain ⟨z, x1, x2⟩ := z
        obtain ⟨g1, g2, -⟩ := hz
        dsimp only at g1 g2
        subst g2
        rw [List.take_length] at g1
        refine ⟨z, ?_, g1⟩
        unfold sX9_printSink_43 sX9_printSink_43b
        dsimp only
        rw [if_pos (zi_yle (by omega) (by omega) (by omega))])
      (zfuel_lt (by omega)) ⟨by rw [List.take_zero]; exact o0, by rw [show ((M.2.1 l).length : Int) - ((0 : Nat) : Int) = ((M.2.1 l).length : Int) from by omega], fun q => by rw [lhd_getD (fun q2 => by rw [q2] at q; exact absurd q (Nat.not_lt_zero _))]⟩
    have hCN0 := OA_CN hw o0 hCN
    refine ⟨y, ?_, CI_io h hq.1 hq.2.1 (fun a ha => hq.2.2.1 a (by omega) (by omega)) ?_ ?_ hq.2.2.2, hq.1, fun a ha => ⟨hq.2.2.1 a (by omega) (by omega), by rw [hq.2.1], by rw [hq.2.1]⟩⟩
    · unfold fX9_printSink
      rw [cx_c hs, m1, Option.bind_some, cx_ou hs, Option.bind_some, hk4, Option.bind_some, ← hs0, cx_now (OA_csh hs o0), Option.bind_some, fi_14 hCN0.1, Option.bind_some, CN_3 hCN0, zi_add, show (28 : Int) + (s : Int) = ((l : Nat) : Int) from by omega, CN_first hCN0 (by omega), Option.bind_some]
      dsimp only
      rw [cx_now (OA_csh hs o0), Option.bind_some, fi_14 hCN0.1, Option.bind_some, CN_3 hCN0, CN_size hCN0 (by omega), Option.bind_some]
      dsimp only
      rw [hy, Option.bind_some, cx_ou (OA_csh hs hq), Option.bind_some, show zgI 4 1 y (X + 4) = some (y.2.1 (X + 4) 1) from if_pos (by rw [hq.1]; exact hs.2.2.2.2.1.1), Option.bind_some, hq.2.2.2.1]
    · rw [hq.2.2.1 (X + 1) (by omega) (by omega), hq.2.2.1 (X + 2) (by omega) (by omega)]
      exact hR.2.2.2.2.2.2.2.1
    · rw [hq.2.2.1 (X + 3) (by omega) (by omega)]
      exact hR.2.2.2.2.2.2.2.2.1
  · rw [if_neg k]
    refine ⟨fun q => absurd q (show ¬ (1 : Int) = 0 by decide), fun _ => ⟨rfl, ?_⟩⟩
    unfold tX9_printSink
    rw [n2 k]
end PO
