/-! WHAT STAYS TRUE OF A FLOW: each record of a key is in one place, in the order of the records. -/
def qat (P : qP) (m c n : Nat) : Prop := n < 800 ∧ (c < 16 → c = 4 * qown (qkey P n) m + n / 200) ∧ (16 ≤ c → c < 24 → c = 16 + 4 * qsk P (qkey P n) + qown (qkey P n) m) ∧ (24 ≤ c → c % 2 = qsk P (qkey P n))
/-- the channel of a list of what is kept -/
def qch (c : Nat) : Nat := if c < 30 then c else if c < 54 then c - 30 else c - 54
def qV (P : qP) (M : qM) : Prop := ∀ c n, c < 78 → n ∈ M.2.1 c → qat P (qmany M) (qch c) n
abbrev qci (k m : Nat) : Nat := 4 * qown k m + k % 4
abbrev qco (P : qP) (k m : Nat) : Nat := 16 + 4 * qsk P k + qown k m
def qseq (P : qP) (M : qM) (k : Nat) : List Nat := qf P k (M.2.1 (28 + qsk P k)) ++ qf P k (M.2.1 (26 + qsk P k)) ++ qf P k (M.2.1 (24 + qsk P k)) ++ qf P k (M.2.1 (qco P k (qmany M)))
def qIF (P : qP) (M : qM) (k : Nat) : Prop := qseq P M k ++ qf P k (M.2.1 (qci k (qmany M))) ++ qfrom P k (M.1 (13 + k % 4)).toNat = qfrom P k 0 ∧ M.1 (17 + k) = qsum P (qseq P M k)
def qbase (P : qP) (M : qM) (k : Nat) : List Nat := if M.1 118 = 1 ∧ M.1 123 = 0 then qf P k (M.2.1 (28 + qsk P k)) ++ qf P k (M.2.1 (26 + qsk P k)) else qf P k (M.2.1 (28 + qsk P k))
def qIG (P : qP) (M : qM) (k : Nat) : Prop := qbase P M k ++ qf P k (M.2.1 (54 + qco P k (qmany M))) ++ qf P k (M.2.1 (54 + qci k (qmany M))) ++ qfrom P k (M.1 (124 + k % 4)).toNat = qfrom P k 0 ∧ M.1 (128 + k) = qsum P (qbase P M k ++ qf P k (M.2.1 (54 + qco P k (qmany M))))
/-- what of a key is ahead of the cut: results; records that no sum has -/
def qpre (P : qP) (M : qM) (k : Nat) : List Nat :=
  qf P k (M.2.1 (28 + qsk P k)) ++ qf P k (M.2.1 (26 + qsk P k)) ++ (if M.1 (148 + qsk P k) = 1 then [] else qf P k (M.2.1 (24 + qsk P k))) ++ qf P k (M.2.1 (30 + qco P k (qmany M))) ++ (if M.1 (74 + qco P k (qmany M)) = 1 then [] else qf P k (qup M (qco P k (qmany M))))
def qpri (P : qP) (M : qM) (k : Nat) : List Nat := qf P k (M.2.1 (30 + qci k (qmany M))) ++ (if M.1 (74 + qci k (qmany M)) = 1 then [] else qf P k (qup M (qci k (qmany M))))
def qIH (P : qP) (M : qM) (k : Nat) : Prop :=
  qpre P M k ++ qpri P M k ++ qfrom P k (if M.1 (70 + k % 4) = 1 then M.1 (98 + k % 4) else M.1 (13 + k % 4)).toNat = qfrom P k 0 ∧ (M.1 (144 + qown k (qmany M)) = 1 → M.1 (102 + k) = qsum P (qpre P M k)) ∧
  (M.1 (148 + qsk P k) = 1 → M.1 (74 + qco P k (qmany M)) = 0 → qf P k (M.2.1 (24 + qsk P k)) = qf P k (M.2.1 (30 + qco P k (qmany M))))
/-- a receiver that is there; a channel that is there -/
def qlr (P : qP) (M : qM) (r : Nat) : Prop := if r < 4 then r < qmany M else r - 4 < P.2.1
def qlc (P : qP) (M : qM) (r x : Nat) : Prop := qlr P M r ∧ x < qns P M r
/-- whether the sender of a channel has put its barrier -/
def qsrc (M : qM) (r x : Nat) : Int := if r < 4 then M.1 (70 + x) else M.1 (144 + x)
/-- whether the latest completed checkpoint is not shown yet -/
abbrev qhid (M : qM) : Prop := M.1 118 = 1 ∧ M.1 123 = 0
def qE (P : qP) (M : qM) : Prop :=
  (∀ r x, r < 6 → x < 4 → qlc P M r x →
    (M.2.2 (4 * r + x) = -1 ∨ 0 ≤ M.2.2 (4 * r + x) ∧ M.2.2 (4 * r + x) ≤ (M.2.1 (4 * r + x)).length) ∧
    (M.2.2 (4 * r + x) ≠ -1 ↔ qsrc M r x = 1 ∧ M.1 (74 + (4 * r + x)) = 0) ∧
    (M.1 (74 + (4 * r + x)) = 1 → qsrc M r x = 1) ∧
    (M.1 (144 + r) = 0 → M.2.1 (30 + (4 * r + x)) = []) ∧
    (M.1 69 = 1 → M.1 (43 + (4 * r + x)) = 0 ∧ (M.1 (74 + (4 * r + x)) = 1 → M.1 (144 + r) = 1)) ∧
    (M.1 69 = 0 → (M.1 (43 + (4 * r + x)) = 1 ↔ M.1 (74 + (4 * r + x)) = 1 ∧ M.1 (144 + r) = 0) ∧ M.2.1 (30 + (4 * r + x)) = [] ∧ (M.1 (144 + r) = 1 → M.1 (74 + (4 * r + x)) = 1))) ∧
  (qhid M → (∀ s, s < 4 → M.1 (70 + s) = 0) ∧ (∀ c, c < 24 → M.1 (74 + c) = 0) ∧ ∀ r, r < 6 → M.1 (144 + r) = 0) ∧
  (¬ qhid M → ∀ j, j < 2 → M.1 (148 + j) = 0 → M.2.1 (26 + j) = [])
/-- a receiver has cut just when it is to -/
def qW (P : qP) (M : qM) : Prop := ∀ r, r < 6 → qlr P M r → (M.1 69 = 1 → M.1 (144 + r) = 1 → ∃ x, x < qns P M r ∧ M.1 (74 + (4 * r + x)) = 1) ∧ (M.1 69 = 0 → (∀ x, x < qns P M r → M.1 (74 + (4 * r + x)) = 1) → M.1 (144 + r) = 1)
/-- numbers in their ranges -/
def qN (P : qP) (M : qM) : Prop :=
  (1 ≤ M.1 1 ∧ M.1 1 ≤ 4) ∧ (1 ≤ M.1 2 ∧ M.1 2 ≤ 9) ∧ (0 ≤ M.1 3 ∧ M.1 3 ≤ 99) ∧ (M.1 4 = 0 ∨ M.1 4 = 1) ∧ (∀ s, s < 4 → 0 ≤ M.1 (9 + s) ∧ M.1 (9 + s) ≤ 9) ∧
  (∀ s, s < 4 → 0 ≤ M.1 (13 + s) ∧ M.1 (13 + s) ≤ P.2.2.1 s) ∧ (∀ s, s < 4 → 0 ≤ M.1 (124 + s) ∧ M.1 (124 + s) ≤ P.2.2.1 s) ∧
  (M.1 67 = 0 ∨ M.1 67 = 1) ∧ (M.1 118 = 0 ∨ M.1 118 = 1) ∧ (M.1 123 = 0 ∨ M.1 123 = 1) ∧ (M.1 122 = 0 ∨ M.1 122 = 1) ∧
  (∀ r, r < 6 → 0 ≤ M.1 (37 + r) ∧ (qlr P M r → M.1 (37 + r) ≤ qns P M r)) ∧ (∀ i, i < 4 → 0 ≤ M.1 (33 + i)) ∧
  (∀ c, c < 24 → M.1 (43 + c) = 0 ∨ M.1 (43 + c) = 1)
/-- what holds of a checkpoint in progress -/
def qO (P : qP) (M : qM) : Prop :=
  (M.1 69 = 0 ∨ M.1 69 = 1) ∧ (∀ s, s < 4 → M.1 (70 + s) = 0 ∨ M.1 (70 + s) = 1) ∧ (∀ c, c < 24 → M.1 (74 + c) = 0 ∨ M.1 (74 + c) = 1) ∧ (∀ r, r < 6 → M.1 (144 + r) = 0 ∨ M.1 (144 + r) = 1) ∧
  (∀ s, s < 4 → 0 ≤ M.1 (98 + s) ∧ M.1 (98 + s) ≤ P.2.2.1 s) ∧ 1 ≤ M.1 5 ∧ (0 ≤ M.1 68 ∧ M.1 68 ≤ M.1 0) ∧
  (∀ s, s < 4 → M.1 (70 + s) = 1 → s < P.1) ∧ (∀ r x, r < 6 → x < 4 → M.1 (74 + (4 * r + x)) = 1 → qlc P M r x) ∧ (∀ r, r < 6 → M.1 (144 + r) = 1 → qlr P M r)
def qZ (P : qP) (M : qM) : Prop := (∀ c, c < 24 → M.2.2 c = -1 ∧ M.1 (43 + c) = 0) ∧ (¬ qhid M → ∀ j, j < 2 → M.2.1 (26 + j) = [])
def qI0 (P : qP) (M : qM) : Prop := qPok P ∧ qN P M ∧ qV P M ∧ (∀ k, k < 16 → qIF P M k ∧ qIG P M k) ∧ (M.1 67 = 0 → qZ P M) ∧ (M.1 67 = 1 → qO P M ∧ qE P M ∧ ∀ k, k < 16 → qIH P M k) ∧ (∀ r x, r < 6 → x < 4 → ¬ qlc P M r x → M.2.2 (4 * r + x) = -1 ∧ M.1 (43 + (4 * r + x)) = 0) ∧
  (M.1 118 = 0 → (∀ j, j < 20 → M.1 (124 + j) = 0) ∧ ∀ c, c < 24 → M.2.1 (54 + c) = []) ∧ (M.1 118 = 1 → 1 ≤ M.1 119)
def qI (P : qP) (M : qM) : Prop := qI0 P M ∧ (M.1 67 = 1 → qW P M)
