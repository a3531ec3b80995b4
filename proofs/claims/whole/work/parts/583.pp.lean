/-! The reference prints. -/
def jX10_saysNumber_14 (σ : zS) (x0 : Nat) (x1 : Int32)  : Option zS :=
  (zck 9 σ x0 (fX10_says σ x0 (((zi 48)) + (x1 - x1 / ((zi 10)) * ((zi 10)))))).bind fun c1 => some c1
def gX10_saysNumber : Nat → zS → Nat → Int32 → Option zS
  | 0, _, _, _ => none
  | n + 1, σ, x0, x1 => (if x1 ≤ ((zi 9)) then jX10_saysNumber_14 σ x0 x1 else (zck 9 σ x0 (gX10_saysNumber n σ x0 (x1 / ((zi 10))))).bind fun c2 => jX10_saysNumber_14 c2 x0 x1)
def fX10_saysNumber (σ : zS) (x0 : Nat) (x1 : Int32) : Option zS := gX10_saysNumber 5 σ x0 x1
def sX10_printSink_29b (x0 : Nat) (x2 : Int32) (σ : zS) (u3 : Int32) : Option ((zS × Int32) ⊕ zS) :=
  (zgR 9 6 σ x0).bind fun v5 => (zaI σ v5 x2).bind fun v6 => (if v6 ≤ u3 then some (.inr σ) else (zck 9 σ x0 (fX10_says σ x0 ((zi 107)))).bind fun c7 => (zck 9 c7 x0 (fX10_at c7 x0 x2 u3)).bind fun c8 => (zck 9 c8.1 x0 (fX10_saysNumber c8.1 x0 (c8.2 / ((zi 20000))))).bind fun c9 => (zck 9 c9 x0 (fX10_says c9 x0 ((zi 61)))).bind fun c10 => (zck 9 c10 x0 (fX10_at c10 x0 x2 u3)).bind fun c11 => (zck 9 c11.1 x0 (fX10_saysNumber c11.1 x0 (c11.2 - c11.2 / ((zi 20000)) * ((zi 20000))))).bind fun c12 => (zck 9 c12 x0 (fX10_says c12 x0 ((zi 10)))).bind fun c13 => some (.inl (c13, u3 + (zi 1))))
def sX10_printSink_29 (x0 : Nat) (x2 : Int32) (z : (zS × Int32)) : Option ((zS × Int32) ⊕ zS) := sX10_printSink_29b x0 x2 z.1 z.2
def fX10_printSink (σ : zS) (x0 : Nat) (x1 : Int32) : Option (zS × Int32) :=
  (zck 9 σ x0 (fX10_isSink σ x0 x1)).bind fun c1 => (zck 9 c1.1 x0 (fX10_is c1.1 x0 c1.2)).bind fun c2 => (if c2.2 = ((zi 0)) then some (c2.1, (zi 0)) else (zpI 9 31 c2.1 x0 ((zi 0))).bind fun σ3 => (fX10_results σ3 ((zi 12996)) x1).bind fun c4 => (zloop (sX10_printSink_29 x0 c4.2) zfuel (c4.1, (zi 0))).bind fun o15 => (zgI 9 31 o15 x0).bind fun v16 => some (o15, v16))
section PP
variable {σ τ : zS} {m k : Nat} {P : qP} {M : qM} {H : List qM} {S : Option qM} {nm : Nat → List Int32} {tx ou o : List Int32} {er ea : Int}
/-- what printing does to the reference -/
def QA (σ τ : zS) (m : Nat) (o : List Int32) : Prop := τ.1 = σ.1 ∧ τ.2.2 = σ.2.2 ∧ (∀ a, a ≠ m → a ≠ m + 14 → τ.2.1 a = σ.2.1 a) ∧ (∀ j, j ≠ 31 → τ.2.1 m j = σ.2.1 m j) ∧ ROu τ m o
theorem ro_add {v : Nat} (hs : rsh σ m) (h : QA σ τ m o) (hl : o.length < 8000) (hv : v < 128) : ∃ υ, fX10_says τ m (zi v) = some υ ∧ QA σ υ m (o ++ [zi v]) := by
  obtain ⟨h1, h2, h3, h4, h5, h6, h7⟩ := h
  have hs2 : rsh τ m := rsh_fr hs h1 (by rw [h2])
  have hb := b8_zi v hv
  have g4 : zsB τ (m + 14) (zi o.length) (zi (v : Nat)).toInt8.toInt32 = some (zuI τ (m + 14) o.length (zi v)) := by
    rw [zsB_of o.length (rk_out hs2) rfl (by omega) (by decide)]
    unfold b8 at hb ⊢
    rw [hb, hb]
  have hs3 : rsh (zuI τ (m + 14) o.length (zi v)) m := rsh_uI hs2
  have e10 : (zuI τ (m + 14) o.length (zi v)).2.1 m = τ.2.1 m := zu_off _ _ _ (by omega)
  refine ⟨zuI (zuI τ (m + 14) o.length (zi v)) m 31 (zi (o.length + 1)), ?_, h1, h2, fun a n1 n2 => ?_, fun j n1 => ?_, ?_, ?_, fun i hi => ?_⟩
  · unfold fX10_says
    rw [rg_out hs2, Option.bind_some, rg_i hs2, Option.bind_some, h5, g4, Option.bind_some, rg_i hs3, Option.bind_some, e10, h5, zi_add, rp_i hs3]
    rfl
  · rw [show (zuI (zuI τ (m + 14) o.length (zi v)) m 31 (zi (o.length + 1))).2.1 a = (zuI τ (m + 14) o.length (zi v)).2.1 a from zu_off _ _ _ n1, show (zuI τ (m + 14) o.length (zi v)).2.1 a = τ.2.1 a from zu_off _ _ _ n2]
    exact h3 a n1 n2
  · rw [zuI_rd, if_neg n1, e10]
    exact h4 j n1
  · rw [zuI_rd, if_pos rfl, List.length_append, List.length_singleton, Int.natCast_add]
    rfl
  · rw [List.length_append, List.length_singleton]
    omega
  · rw [show (zuI (zuI τ (m + 14) o.length (zi v)) m 31 (zi (o.length + 1))).2.1 (m + 14) = (zuI τ (m + 14) o.length (zi v)).2.1 (m + 14) from zu_off _ _ _ (by omega), zuI_rd]
    rw [List.length_append, List.length_singleton] at hi
    by_cases e : i = o.length
    · subst e
      rw [if_pos rfl, gD_end]
    · rw [if_neg e, gD_app (by omega)]
      exact h7 i (by omega)
theorem QA_9 {A : Type} {f : Option A} (hs : rsh σ m) (h : QA σ τ m o) : zck 9 τ m f = f := if_pos (by rw [h.1]; exact hs.1)
theorem dgc_10 {n : Nat} (h : 9 < n) (h2 : n < 100000) : dgc n = dgc (n / 10) + 1 := by
  unfold dgc
  rw [if_neg (show ¬ n < 10 by omega)]
  by_cases a : n < 100
  · rw [if_pos a, if_pos (by omega)]
  · rw [if_neg a]
    by_cases b : n < 1000
    · rw [if_pos b, if_neg (by omega), if_pos (by omega)]
    · rw [if_neg b]
      by_cases c : n < 10000
      · rw [if_pos c, if_neg (by omega), if_neg (by omega), if_pos (by omega)]
      · rw [if_neg c, if_neg (by omega), if_neg (by omega), if_neg (by omega), if_pos (by omega)]
theorem pdg_10 {n : Nat} (h : 9 < n) (h2 : n < 100000) : pdg n = pdg (n / 10) ++ [zi ((48 + n % 10 : Nat) : Int)] := by
  have e := dgc_10 h h2
  have d := (dgc_t (n := n / 10) (by omega)).1
  unfold pdg
  rw [e, List.range_succ, List.map_append]
  congr 1
  · refine List.map_congr_left (fun j hj => ?_)
    have hj2 := List.mem_range.1 hj
    have p := (pw_t (dgc (n / 10) - j) (by omega)).2.2.1
    rw [show dgc (n / 10) + 1 - j = dgc (n / 10) - j + 1 by omega, p, ← Nat.div_div_eq_div_mul]
  · rw [List.map_singleton, Nat.sub_self, show pw 0 = 1 from rfl, Nat.div_one]
theorem pdg_1 {n : Nat} (h : n ≤ 9) : pdg n = [zi ((48 + n % 10 : Nat) : Int)] := by
  unfold pdg dgc
  rw [if_pos (by omega)]
  show [zi ((48 + n / 1 % 10 : Nat) : Int)] = _
  rw [Nat.div_one]
theorem ro_num : ∀ (c n : Nat) (τ : zS) (o : List Int32), rsh σ m → QA σ τ m o → n < 100000 → dgc n ≤ c → c < 5 → o.length + dgc n < 8000 → ∃ υ, gX10_saysNumber (c + 1) τ m (zi n) = some υ ∧ QA σ υ m (o ++ pdg n) := by
  intro c
  induction c with
  | zero =>
    intro n τ o hs h hn hd hc hl
    have h9 : n ≤ 9 := by
      unfold dgc at hd
      split at hd
      · omega
      · split at hd
        · omega
        · split at hd
          · omega
          · split at hd <;> omega
    obtain ⟨υ, e1, e2⟩ := ro_add (v := 48 + n % 10) hs h (by omega) (by omega)
    refine ⟨υ, ?_, by rw [pdg_1 h9]; exact e2⟩
    unfold gX10_saysNumber jX10_saysNumber_14
    rw [if_pos ((zi_le (by omega) (by omega) (by omega) (by omega)).2 (show (n : Int) ≤ 9 by omega)), zi_mod (by omega) (by omega) (by omega) (by omega), zi_add, show (48 : Int) + (n : Int) % 10 = ((48 + n % 10 : Nat) : Int) by omega, QA_9 hs h, e1]
    rfl
  | succ c ih =>
    intro n τ o hs h hn hd hc hl
    unfold gX10_saysNumber
    by_cases h9 : n ≤ 9
    · obtain ⟨υ, e1, e2⟩ := ro_add (v := 48 + n % 10) hs h (by omega) (by omega)
      refine ⟨υ, ?_, by rw [pdg_1 h9]; exact e2⟩
      unfold jX10_saysNumber_14
      rw [if_pos ((zi_le (by omega) (by omega) (by omega) (by omega)).2 (show (n : Int) ≤ 9 by omega)), zi_mod (by omega) (by omega) (by omega) (by omega), zi_add, show (48 : Int) + (n : Int) % 10 = ((48 + n % 10 : Nat) : Int) by omega, QA_9 hs h, e1]
      rfl
    · have d10 := dgc_10 (n := n) (by omega) hn
      obtain ⟨s1, e1, e2⟩ := ih (n / 10) τ o hs h (by omega) (by omega) (by omega) (by omega)
      obtain ⟨υ, e3, e4⟩ := ro_add (v := 48 + n % 10) hs e2 (by rw [List.length_append, pdg_len]; omega) (by omega)
      refine ⟨υ, ?_, by rw [pdg_10 (by omega) hn, ← List.append_assoc]; exact e4⟩
      rw [if_neg (show ¬ zi (n : Int) ≤ zi 9 by rw [zi_le (by omega) (by omega) (by omega) (by omega)]; omega), zi_div (by omega) (by omega) (by omega) (by omega), show (n : Int) / 10 = ((n / 10 : Nat) : Int) by omega, QA_9 hs h, e1, Option.bind_some]
      unfold jX10_saysNumber_14
      rw [zi_div (by omega) (by omega) (by omega) (by omega), zi_mul, zi_sub, zi_add, show (48 : Int) + ((n : Int) - (n : Int) / 10 * 10) = ((48 + n % 10 : Nat) : Int) by omega, QA_9 hs e2, e3]
      rfl
theorem QA_RN (h : QA σ τ m o) (g : RN σ m P M) : RN τ m P M := by
  obtain ⟨a1, a2, a3, a4⟩ := g
  refine ⟨rsh_fr a1 h.1 (by rw [h.2.1]), ?_, by rw [h.2.2.1 (m + 4) (by omega) (by omega)]; exact a3, a4⟩
  unfold rset
  rw [h.2.2.2.1 1 (by omega), h.2.2.2.1 2 (by omega), h.2.2.1 (m + 1) (by omega) (by omega), h.2.2.1 (m + 2) (by omega) (by omega)]
  exact a2
theorem rc_print {x : Int} (h : RI σ m P nm M H S tx er ea ou) (hx : zin x) : ∃ τ, fX10_printSink σ m (zi x) = some (τ, zi (aPrint P M x ou).2.1) ∧ RI τ m P nm M H S tx er ea (aPrint P M x ou).2.2 ∧ zfr m (m + 15) σ τ ∧ τ.2.1 m 0 = zi (aPrint P M x ou).1 := by
  have hN := h.1
  have hs := hN.1
  have hI := hN.2.2.2
  have hP2 := hI.1.1.2.2.2.1
  unfold fX10_printSink aPrint
  rw [RN_ck hs, r_isSink hN hx, Option.bind_some]
  dsimp only
  rw [RN_ck hs]
  by_cases k : 0 ≤ x ∧ x < P.2.1
  · rw [decide_eq_true k, if_pos k, show fX10_is σ m (zb true) = some (zuI σ m 0 (zi 0), zi 1) from r_is1 hs, Option.bind_some]
    dsimp only
    obtain ⟨s, rfl⟩ := nat_of k.1
    rw [Int.toNat_natCast, if_neg z10]
    have hs2 : rsh (zuI σ m 0 (zi 0)) m := rsh_uI hs
    obtain ⟨s0, h0⟩ : ∃ s0, s0 = zuI (zuI σ m 0 (zi 0)) m 31 (zi 0) := ⟨_, rfl⟩
    have o0 : QA (zuI σ m 0 (zi 0)) s0 m [] := by
      rw [h0]
      exact ⟨rfl, rfl, fun a a1 _ => zu_off _ _ _ a1, fun j hj => by rw [zuI_rd, if_neg hj], by rw [zuI_rd, if_pos rfl]; rfl, by show 0 ≤ 8000; omega, fun i hi => absurd (show i < 0 from hi) (by omega)⟩
    have hN2 : RN (zuI σ m 0 (zi 0)) m P M := RN_tl hN
    have hlen := (qI_len hI (c := 28 + s) (by omega)).1
    have hmem : ∀ n, n ∈ M.2.1 (28 + s) → n < 800 := fun n hn => (qI_rec hI (c := 28 + s) (by omega) hn).1
    have hout := aText_len (P := P) hmem
    obtain ⟨y, hy, hq⟩ := zloop_run (step := sX10_printSink_29 m (zi (rb (28 + s)))) (s := (s0, zi 0)) (fuel := zfuel) (M.2.1 (28 + s)).length
      (fun t z => QA (zuI σ m 0 (zi 0)) z.1 m (aText P ((M.2.1 (28 + s)).take t)) ∧ z.2 = zi (t : Nat))
      (fun y => QA (zuI σ m 0 (zi 0)) y m (aText P (M.2.1 (28 + s))))
      (fun t z ht hz => by
        obtain ⟨z, x1⟩ := z
        obtain ⟨g1, g2⟩ := hz
        dsimp only at g1 g2
        subst g2
        have hrec := qI_rec hI (c := 28 + s) (by omega) (getD_mem (L := M.2.1 (28 + s)) (i := t) ht)
        have hk16 := qkey_lt (P := P) hrec.1
        have hres := qres_lt (P := P) hrec.1
        have hlt := aText_len (P := P) (l := (M.2.1 (28 + s)).take t) (fun n hn => hmem n (List.mem_of_mem_take hn))
        rw [List.length_take, Nat.min_eq_left (by omega)] at hlt
        have hll := aLine_len (P := P) hrec.1
        have eL := aText_take (P := P) ht
        obtain ⟨q1, q2⟩ := qen_div (P := P) (c := qch (28 + s)) (n := (M.2.1 (28 + s)).getD t 0) (by unfold qch; rw [if_pos (by omega)]; omega) hrec.1
        have hat : ∀ u T2, QA (zuI σ m 0 (zi 0)) u m T2 → fX10_at u m (zi (rb (28 + s))) (zi (t : Nat)) = some (u, zi (qen P (qch (28 + s)) ((M.2.1 (28 + s)).getD t 0))) := fun u T2 ho => by
          rw [RN_at (28 + s) t (QA_RN ho hN2) rfl (by omega) rfl (by rw [pR_len (by omega)]; omega), pR_get (by omega) (by omega)]
        generalize hn : (M.2.1 (28 + s)).getD t 0 = n at *
        have hla : (aLine P n).length = 3 + (dgc (qkey P n) + 1) + (dgc (qres P n) + 1) := by
          unfold aLine
          simp only [List.length_append, List.length_cons, List.length_nil, pdg_len]
          omega
        generalize hT : aText P ((M.2.1 (28 + s)).take t) = T at *
        obtain ⟨z1, e1, o1⟩ := ro_add (v := 107) hs2 g1 (by omega) (by omega)
        have dk := (dgc_t (n := qkey P n) (by omega)).1
        have dr := (dgc_t (n := qres P n) (by omega)).1
        obtain ⟨z2, e2, o2⟩ := ro_num (σ := zuI σ m 0 (zi 0)) (m := m) 4 (qkey P n) _ _ hs2 o1 (by omega) (by omega) (by omega) (by simp only [List.length_append, List.length_cons, List.length_nil]; omega)
        obtain ⟨z3, e3, o3⟩ := ro_add (v := 61) hs2 o2 (by simp only [List.length_append, List.length_cons, List.length_nil, pdg_len]; omega) (by omega)
        obtain ⟨z4, e4, o4⟩ := ro_num (σ := zuI σ m 0 (zi 0)) (m := m) 4 (qres P n) _ _ hs2 o3 (by omega) (by omega) (by omega) (by simp only [List.length_append, List.length_cons, List.length_nil, pdg_len]; omega)
        obtain ⟨z5, e5, o5⟩ := ro_add (v := 10) hs2 o4 (by simp only [List.length_append, List.length_cons, List.length_nil, pdg_len]; omega) (by omega)
        have fin : T ++ [zi ((107 : Nat) : Int)] ++ pdg (qkey P n) ++ [zi ((61 : Nat) : Int)] ++ pdg (qres P n) ++ [zi ((10 : Nat) : Int)] = aText P ((M.2.1 (28 + s)).take (t + 1)) := by
          rw [eL]
          unfold aLine
          simp only [List.append_assoc]
          rfl
        rw [fin] at o5
        have hz := QA_RN g1 hN2
        refine Or.inl ⟨(z5, zi ((t + 1 : Nat) : Int)), ?_, o5, rfl⟩
        unfold sX10_printSink_29 sX10_printSink_29b fX10_saysNumber
        dsimp only
        rw [RN_now hz, Option.bind_some, RN_len (28 + s) hz rfl (by omega), Option.bind_some, pR_len (by omega), if_neg (show ¬ zi (((M.2.1 (28 + s)).length : Nat) : Int) ≤ zi (t : Nat) by rw [zi_le (by omega) (by omega) (by omega) (by omega)]; omega), QA_9 hs2 g1, show fX10_says z m (zi 107) = some z1 from e1, Option.bind_some, QA_9 hs2 o1, hat _ _ o1, Option.bind_some]
        dsimp only
        rw [QA_9 hs2 o1, q1, e2, Option.bind_some, QA_9 hs2 o2, show fX10_says z2 m (zi 61) = some z3 from e3, Option.bind_some, QA_9 hs2 o3, hat _ _ o3, Option.bind_some]
        dsimp only
        rw [QA_9 hs2 o3, q2, e4, Option.bind_some, QA_9 hs2 o4, show fX10_says z4 m (zi 10) = some z5 from e5, Option.bind_some, zi_add]
        rfl)
      (fun z hz => by
        obtain ⟨z, x1⟩ := z
        obtain ⟨g1, g2⟩ := hz
        dsimp only at g1 g2
        subst g2
        rw [List.take_length] at g1
        have hz := QA_RN g1 hN2
        refine ⟨z, ?_, g1⟩
        unfold sX10_printSink_29 sX10_printSink_29b
        dsimp only
        rw [RN_now hz, Option.bind_some, RN_len (28 + s) hz rfl (by omega), Option.bind_some, pR_len (by omega)]
        exact if_pos ((zi_le (by omega) (by omega) (by omega) (by omega)).2 (Int.le_refl _)))
      (zfuel_lt (by omega)) ⟨by rw [List.take_zero]; exact o0, rfl⟩
    rw [rp_i hs2, Option.bind_some, ← h0, f_shown (by omega), Option.bind_some]
    dsimp only
    rw [hy, Option.bind_some, rg_i (QA_RN hq hN2).1, Option.bind_some, hq.2.2.2.2.1]
    have qm : ∀ j, j ≠ 31 → j ≠ 0 → y.2.1 m j = σ.2.1 m j := fun j j1 j2 => by rw [hq.2.2.2.1 j j1, zuI_rd, if_neg j2]
    have qi : ∀ a, a ≠ m → a ≠ m + 14 → y.2.1 a = σ.2.1 a := fun a a1 a2 => by
      rw [hq.2.2.1 a a1 a2]
      exact zu_off _ _ _ a1
    refine ⟨y, rfl, RI_io h hq.1 (by rw [hq.2.1]; rfl) (by rw [hq.2.1]; rfl) (fun j hj => qm j (by omega) (by omega)) (fun o ho => qi _ (by omega) (by omega)) ?_ ?_ hq.2.2.2.2, ⟨hq.1, fun a ha => ⟨qi a (by omega) (by omega), by rw [hq.2.1]; rfl, by rw [hq.2.1]; rfl⟩⟩, ?_⟩
    · unfold RTx
      rw [qm 15 (by omega) (by omega), qi (m + 10) (by omega) (by omega)]
      exact RI_tx h
    · rw [qm 22 (by omega) (by omega), qm 23 (by omega) (by omega)]
      exact RI_er h
    · rw [hq.2.2.2.1 0 (by omega), zuI_rd, if_pos rfl]
  · rw [decide_eq_false k, if_neg k, show fX10_is σ m (zb false) = some (zuI σ m 0 (zi 1), zi 0) from r_is0 hs, Option.bind_some]
    exact ⟨zuI σ m 0 (zi 1), if_pos rfl, RI_tl h, zfr_wide zfr_I (by omega) (by omega), by rw [zuI_rd, if_pos rfl]⟩
end PP
