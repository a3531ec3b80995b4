/-! Records of a key, in their order. -/
theorem qu_at {α : Type} (f : Nat → α) (k : Nat) (v : α) : qu f k v k = v := if_pos rfl
theorem qu_ne {α : Type} {f : Nat → α} {k j : Nat} {v : α} (h : j ≠ k) : qu f k v j = f j := if_neg h
theorem qf_app (P : qP) (k : Nat) (a b : List Nat) : qf P k (a ++ b) = qf P k a ++ qf P k b := List.filter_append ..
theorem qf_nil (P : qP) (k : Nat) : qf P k [] = [] := rfl
theorem qf_pos {P : qP} {k n : Nat} (h : qkey P n = k) : qf P k [n] = [n] := by simp [qf, h]
theorem qf_neg {P : qP} {k n : Nat} (h : qkey P n ≠ k) : qf P k [n] = [] := by simp [qf, h]
theorem qf_cons (P : qP) (k n : Nat) (l : List Nat) : qf P k (n :: l) = qf P k [n] ++ qf P k l := qf_app P k [n] l
theorem qf_mem {P : qP} {k n : Nat} {l : List Nat} : n ∈ qf P k l ↔ n ∈ l ∧ qkey P n = k := by simp [qf]
theorem qsum_app (P : qP) (a b : List Nat) : qsum P (a ++ b) = qsum P a + qsum P b := by simp [qsum]
theorem qsum_one (P : qP) (n : Nat) : qsum P [n] = qval P n := by simp [qsum]
theorem qsum_nil (P : qP) : qsum P [] = 0 := rfl
def qPok (P : qP) : Prop := 1 ≤ P.1 ∧ P.1 ≤ 4 ∧ 1 ≤ P.2.1 ∧ P.2.1 ≤ 2 ∧ (∀ s, P.2.2.1 s ≤ 200) ∧ (∀ s, P.1 ≤ s → P.2.2.1 s = 0) ∧ ∀ s, P.2.2.2 s ≤ 999
theorem qkey_lt {P : qP} {n : Nat} (h : n < 800) : qkey P n < 16 := by unfold qkey; omega
theorem qkey_mod {P : qP} {n : Nat} (h : n < 800) : qkey P n % 4 = n / 200 := by unfold qkey; omega
theorem qown_lt {k m : Nat} (h : 1 ≤ m) : qown k m < m := by
  unfold qown
  have : k % 8 * m < m * 8 := by rw [Nat.mul_comm]; exact Nat.mul_lt_mul_of_pos_left (Nat.mod_lt _ (by decide)) h
  omega
theorem qsk_lt {P : qP} {k : Nat} (h : 1 ≤ P.2.1) : qsk P k < P.2.1 := Nat.mod_lt _ h
theorem qfrom_step {P : qP} {k p : Nat} (h : p < P.2.2.1 (k % 4)) : qfrom P k p = qf P k [200 * (k % 4) + p] ++ qfrom P k (p + 1) := by
  unfold qfrom
  rw [show P.2.2.1 (k % 4) - p = (P.2.2.1 (k % 4) - (p + 1)) + 1 from by omega, List.range'_succ, List.map_cons]
  exact qf_app P k [200 * (k % 4) + p] _
theorem qfrom_end {P : qP} {k p : Nat} (h : P.2.2.1 (k % 4) ≤ p) : qfrom P k p = [] := by
  unfold qfrom
  rw [show P.2.2.1 (k % 4) - p = 0 from by omega]
  rfl
theorem qsplit {P : qP} {k p : Nat} (h : p ≤ P.2.2.1 (k % 4)) : qfrom P k 0 = qupto P k p ++ qfrom P k p := by
  unfold qfrom qupto
  rw [← List.filter_append, ← List.map_append]
  congr 2
  have := List.range'_append_1 (s := 0) (m := p) (n := P.2.2.1 (k % 4) - p)
  rw [Nat.zero_add] at this
  rw [this]
  congr 1
  omega
theorem qupto_succ (P : qP) (k p : Nat) : qupto P k (p + 1) = qupto P k p ++ qf P k [200 * (k % 4) + p] := by
  unfold qupto
  have := List.range'_append_1 (s := 0) (m := p) (n := 1)
  rw [← this, List.map_append, List.filter_append]
  simp [qf, List.range'_succ]
theorem qfrom_mem {P : qP} {k p n : Nat} : n ∈ qfrom P k p ↔ (∃ i, p ≤ i ∧ i < P.2.2.1 (k % 4) ∧ n = 200 * (k % 4) + i) ∧ qkey P n = k := by
  unfold qfrom
  rw [List.mem_filter, List.mem_map]
  constructor
  · rintro ⟨⟨i, h1, rfl⟩, h2⟩
    rw [List.mem_range'_1] at h1
    exact ⟨⟨i, h1.1, by omega, rfl⟩, by simpa using h2⟩
  · rintro ⟨⟨i, h1, h3, rfl⟩, h2⟩
    exact ⟨⟨i, by rw [List.mem_range'_1]; omega, rfl⟩, by simpa using h2⟩
theorem qfrom_lt (P : qP) (k p : Nat) : (qfrom P k p).Pairwise (· < ·) := by
  unfold qfrom
  refine List.Pairwise.filter _ ?_
  rw [List.pairwise_map]
  refine List.Pairwise.imp ?_ List.pairwise_lt_range'
  intro a b h
  omega
theorem qfrom_nodup (P : qP) (k p : Nat) : (qfrom P k p).Nodup := (qfrom_lt P k p).imp (fun h => Nat.ne_of_lt h)
theorem q_unique {a b a2 b2 : List Nat} {n : Nat} (h : a ++ n :: b = a2 ++ n :: b2) (hn : (a ++ n :: b).Nodup) : a = a2 := by
  induction a generalizing a2 with
  | nil => cases a2 with
    | nil => rfl
    | cons x t =>
      rw [List.nil_append, List.cons_append] at h
      obtain ⟨rfl, rfl⟩ := List.cons.inj h
      simp at hn
  | cons x t ih => cases a2 with
    | nil =>
      rw [List.nil_append, List.cons_append] at h
      obtain ⟨rfl, rfl⟩ := List.cons.inj h
      simp at hn
    | cons y u =>
      rw [List.cons_append, List.cons_append] at h
      obtain ⟨rfl, h2⟩ := List.cons.inj h
      rw [ih h2 (List.nodup_cons.mp hn).2]
/-- the sum behind a record is the sum of those before it and its own -/
theorem qres_eq {P : qP} (hP : qPok P) {k n : Nat} {pre post : List Nat} (h : pre ++ n :: post = qfrom P k 0) : qres P n = qsum P pre + qval P n := by
  have hm : n ∈ qfrom P k 0 := by rw [← h]; simp
  obtain ⟨⟨i, -, hi, rfl⟩, hk⟩ := qfrom_mem.mp hm
  have h200 := hP.2.2.2.2.1 (k % 4)
  have e1 : (200 * (k % 4) + i) % 200 = i := by omega
  have e2 := qsplit (P := P) (k := k) (p := i) (Nat.le_of_lt hi)
  rw [qfrom_step hi, qf_pos hk] at e2
  have e3 : pre = qupto P k i := q_unique (b := post) (b2 := qfrom P k (i + 1)) (h.trans e2) (by rw [h]; exact qfrom_nodup P k 0)
  unfold qres
  rw [hk, e1, qupto_succ, qf_pos hk, qsum_app, qsum_one, e3]
theorem q_nodup_of {P : qP} : ∀ {l : List Nat}, (∀ k, (qf P k l).Nodup) → l.Nodup
  | [], _ => List.nodup_nil
  | n :: t, h => by
    rw [List.nodup_cons]
    refine ⟨fun hm => ?_, q_nodup_of (P := P) (fun k => ?_)⟩
    · have h1 := h (qkey P n)
      rw [qf_cons, qf_pos rfl] at h1
      exact (List.nodup_cons.mp h1).1 (qf_mem.mpr ⟨hm, rfl⟩)
    · have h1 := h k
      rw [qf_cons] at h1
      exact (List.nodup_append.mp h1).2.1
