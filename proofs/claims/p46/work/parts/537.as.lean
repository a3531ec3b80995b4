/-! WHAT EACH QUERY ANSWERS, as mathematics: a code (0: it answers; 1, 2: it throws) and the answer. -/
def aCount (P : qP) (M : qM) (n : Nat) (x : Int) : Int :=
  if x = 0 then P.1 else if x = 1 then M.1 1 else if x = 2 then P.2.1 else if x = 3 then M.1 2 else if x = 4 then M.1 3 else if x = 5 then M.1 0 else if x = 6 then M.1 5 else if x = 7 then M.1 6 else if x = 8 then M.1 7 else if x = 9 then M.1 8 else if x = 10 then n else if x = 11 then M.1 4 else -1
def aSource (P : qP) (M : qM) (a c : Int) : Int × Int :=
  if (0 ≤ a ∧ a < P.1) ∧ 0 ≤ c ∧ c ≤ 3 then (0, if c = 0 then P.2.2.1 a.toNat else if c = 1 then P.2.2.2 a.toNat else if c = 2 then M.1 (9 + a.toNat) else M.1 (13 + a.toNat)) else (1, 0)
def aRecord (P : qP) (a i c : Int) : Int × Int :=
  if (0 ≤ a ∧ a < P.1) ∧ (0 ≤ c ∧ c ≤ 1) ∧ 0 ≤ i ∧ i < P.2.2.1 a.toNat then (0, if c = 0 then qkey P (200 * a.toNat + i.toNat) else qval P (200 * a.toNat + i.toNat)) else (1, 0)
def aOwner (M : qM) (k : Int) : Int × Int := if 0 ≤ k ∧ k < 16 then (0, qown k.toNat (qmany M)) else (1, 0)
def aSum (M : qM) (k : Int) : Int × Int := if 0 ≤ k ∧ k < 16 then (0, M.1 (17 + k.toNat)) else (1, 0)
def qgroups (m i : Nat) : Nat := (List.range 8).countP (fun g => decide (qown g m = i))
def qlens (M : qM) (n : Nat) (g : Nat → Nat) : Int := ((List.range n).map (fun x => ((M.2.1 (g x)).length : Int))).sum
def aInst (P : qP) (M : qM) (a c : Int) : Int × Int :=
  if (0 ≤ a ∧ a < qmany M) ∧ 0 ≤ c ∧ c ≤ 4 then (0, if c = 0 then qgroups (qmany M) a.toNat else if c = 1 then M.1 (33 + a.toNat) else if c = 2 then gmask (fun x => M.1 (43 + (4 * a.toNat + x))) else if c = 3 then qlens M P.1 (fun s => 4 * a.toNat + s) else qlens M P.2.1 (fun k => 4 * (4 + k) + a.toNat)) else (1, 0)
def aSink (P : qP) (M : qM) (a c : Int) : Int × Int :=
  if (0 ≤ a ∧ a < P.2.1) ∧ 0 ≤ c ∧ c ≤ 3 then (0, if c = 0 then (M.2.1 (24 + a.toNat)).length else if c = 1 then (M.2.1 (26 + a.toNat)).length else if c = 2 then (M.2.1 (28 + a.toNat)).length else gmask (fun x => M.1 (43 + (4 * (4 + a.toNat) + x)))) else (1, 0)
def aShown (P : qP) (M : qM) (a i c : Int) : Int × Int :=
  if (0 ≤ a ∧ a < P.2.1) ∧ 0 ≤ c ∧ c ≤ 1 then
    (if 0 ≤ i ∧ i < (M.2.1 (28 + a.toNat)).length then (0, if c = 0 then qkey P ((M.2.1 (28 + a.toNat)).getD i.toNat 0) else qres P ((M.2.1 (28 + a.toNat)).getD i.toNat 0)) else (2, 0)) else (1, 0)
def aIn (P : qP) (M : qM) (a i : Int) (d : Bool) : Int × Int :=
  if (0 ≤ a ∧ a < P.1) ∧ 0 ≤ i ∧ i < qmany M then (0, if d then (if M.2.2 (4 * i.toNat + a.toNat) = -1 then 0 else 1) else (M.2.1 (4 * i.toNat + a.toNat)).length) else (1, 0)
def aOut (P : qP) (M : qM) (i a : Int) (d : Bool) : Int × Int :=
  if (0 ≤ i ∧ i < qmany M) ∧ 0 ≤ a ∧ a < P.2.1 then (0, if d then (if M.2.2 (4 * (4 + a.toNat) + i.toNat) = -1 then 0 else 1) else (M.2.1 (4 * (4 + a.toNat) + i.toNat)).length) else (1, 0)
def aProg (M : qM) (c : Int) : Int × Int :=
  if 0 ≤ c ∧ c ≤ 6 then (0, if M.1 67 = 1 then (if c = 0 then M.1 5 else if c = 1 then M.1 68 else if c = 2 then M.1 69 else if c = 3 then M.1 (70 + 0) + M.1 (70 + 1) + M.1 (70 + 2) + M.1 (70 + 3) else if c = 4 then qas M 0 4 else if c = 5 then qas M 4 2 else gtot M 30) else -1) else (1, 0)
def aComp (M : qM) (c : Int) : Int × Int :=
  if 0 ≤ c ∧ c ≤ 5 then (0, if M.1 118 = 1 then (if c = 0 then M.1 119 else if c = 1 then M.1 120 else if c = 2 then M.1 121 else if c = 3 then M.1 122 else if c = 4 then gtot M 54 else M.1 123) else -1) else (1, 0)
def aNPos (P : qP) (M : qM) (a : Int) : Int × Int := if 0 ≤ a ∧ a < P.1 then (0, M.1 (124 + a.toNat)) else (1, 0)
def aNSum (M : qM) (k : Int) : Int × Int := if 0 ≤ k ∧ k < 16 then (0, M.1 (128 + k.toNat)) else (1, 0)
def aShownOf (P : qP) (M : qM) (k : Int) : Int × Int := if 0 ≤ k ∧ k < 16 then (0, (qf P k.toNat (M.2.1 (28 + qsk P k.toNat))).length) else (1, 0)
def qexp (P : qP) (k m : Nat) : Int := if m ≤ (qfrom P k 0).length then qsum P ((qfrom P k 0).take m) else -1
def aExp (P : qP) (k m : Int) : Int × Int := if (0 ≤ k ∧ k < 16) ∧ 1 ≤ m then (0, qexp P k.toNat m.toNat) else (1, 0)
/-- the fullest channel, and how much it holds, after some channels -/
def qfulI (M : qM) (s : Nat) (n : Nat) (a : Int × Int) : Int × Int := (List.range n).foldl (fun a i => if a.2 < ((M.2.1 (4 * i + s)).length : Int) then (10 * (s : Int) + i, ((M.2.1 (4 * i + s)).length : Int)) else a) a
def qful (P : qP) (M : qM) : Int × Int := (List.range P.1).foldl (fun a s => qfulI M s (qmany M) a) (-1, 0)
def qmost (M : qM) : Int := (List.range (qmany M)).foldl (fun a i => if zi a < zi (M.1 (33 + i)) then M.1 (33 + i) else a) 0
def aRep (P : qP) (M : qM) : Option UInt32 := if zi (M.1 8) = zi 0 then some 0 else zn32 (FP.fdiv (FP.i2f (zi (M.1 8) - zi (qpos P M))) (FP.i2f (zi (M.1 8))))
def aSkew (M : qM) : Option UInt64 := if zi (qmost M) = zi 0 then some 0 else (zn64 (FP.ddiv (FP.i2d (zi (qhand M))) (FP.i2d (zi (qmany M))))).bind fun v => zn64 (FP.ddiv (FP.i2d (zi (qmost M))) v)
def aTicks (t : Int) : Bool := decide (1 ≤ t ∧ t ≤ 500)
def aComplIn (P : qP) (M : qM) (t : Int) : Int × Int := if aTicks t then (0, if M.1 67 = 1 then qcw P M t.toNat else -1) else (1, 0)
def aTake (P : qP) (M : qM) (o : Int) : Int := if M.1 67 = 1 then -1 else qcw P (qbegin o M) 500
def aKeep (P : qP) (M : qM) : Int := if M.1 67 = 1 then -1 else if qcw P (qbegin 1 M) 500 = -1 then -1 else gtot (qcwM P (qbegin 1 M) 500) 54
def aBest (P : qP) (M : qM) (t : Int) : Int × Int := if aTicks t then (0, (qbest P M t.toNat 4).1) else (1, 0)
/-- what a number is when it lies between -/
theorem zi_in {a lo hi : Int} (h1 : lo ≤ a) (h2 : a < hi) (h3 : -2147483648 ≤ lo) (h4 : hi ≤ 2147483648) : zin a := ⟨by omega, by omega⟩
theorem nat_of {a : Int} (h : 0 ≤ a) : ∃ n : Nat, a = n := ⟨a.toNat, by omega⟩
