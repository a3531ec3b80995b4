/-! THE FLOW AS MATHEMATICS. qP: sources, sinks, records and seeds of the sources. A record has the number 200 * source + index. -/
abbrev qP : Type := Nat × Nat × (Nat → Nat) × (Nat → Nat)
def qkey (P : qP) (n : Nat) : Nat := 4 * ((P.2.2.2 (n / 200) + n % 200 * (n % 200) + n % 200 / 2) % 4) + n / 200
def qval (P : qP) (n : Nat) : Nat := (P.2.2.2 (n / 200) + 7 * (n % 200)) % 50 + 1
/-- the records of a key from a position on, and before it -/
def qfrom (P : qP) (k p : Nat) : List Nat := ((List.range' p (P.2.2.1 (k % 4) - p)).map (fun i => 200 * (k % 4) + i)).filter (fun n => qkey P n == k)
def qupto (P : qP) (k p : Nat) : List Nat := ((List.range' 0 p).map (fun i => 200 * (k % 4) + i)).filter (fun n => qkey P n == k)
def qsum (P : qP) (l : List Nat) : Nat := (l.map (qval P)).sum
/-- the sum behind a record -/
def qres (P : qP) (n : Nat) : Nat := qsum P (qupto P (qkey P n) (n % 200 + 1))
def qown (k m : Nat) : Nat := k % 8 * m / 8
def qsk (P : qP) (k : Nat) : Nat := k / 4 % P.2.1
def qf (P : qP) (k : Nat) (l : List Nat) : List Nat := l.filter (fun n => qkey P n == k)
/-- numbers, lists, barriers. Numbers: 0 time, 1 workers, 2 room, 3 every, 4 overtake, 5 begun, 6 completed, 7 failures, 8 sent, 9 lags, 13 positions, 17 sums, 33 handled, 37 turns, 43 blocked (by channel), 67 in progress, 68 its time, 69 overtakes, 70 put, 74 arrived (by channel), 98 its positions, 102 its sums, 118 one is completed, 119 number, 120 begun at, 121 completed at, 122 overtook, 123 shown, 124 positions, 128 sums, 144 cut (by receiver).
Channels: 4 * worker + source, 16 + 4 * sink + worker; lists: channels, 24 open, 26 closed, 28 shown, 30 + channel kept, 54 + channel done. Barriers by channel: how many stand before it, -1 without one. -/
abbrev qM : Type := (Nat → Int) × (Nat → List Nat) × (Nat → Int)
def qu {α : Type} (f : Nat → α) (k : Nat) (v : α) : Nat → α := fun j => if j = k then v else f j
def qS (M : qM) (k : Nat) (v : Int) : qM := (qu M.1 k v, M.2.1, M.2.2)
def qL (M : qM) (c : Nat) (v : List Nat) : qM := (M.1, qu M.2.1 c v, M.2.2)
def qB (M : qM) (c : Nat) (v : Int) : qM := (M.1, M.2.1, qu M.2.2 c v)
def qmany (M : qM) : Nat := (M.1 1).toNat
def qns (P : qP) (M : qM) (r : Nat) : Nat := if r < 4 then P.1 else qmany M
def qcnt (P : qP) (M : qM) (r : Nat) : Int := ((List.range (qns P M r)).map (fun x => M.1 (74 + (4 * r + x)))).sum
def qbegin (o : Int) (M : qM) : qM :=
  ((fun k => if 70 ≤ k ∧ k < 118 ∨ 144 ≤ k then 0 else if k = 5 then M.1 5 + 1 else if k = 67 then 1 else if k = 68 then M.1 0 else if k = 69 then o else M.1 k),
   (fun c => if 30 ≤ c ∧ c < 54 then [] else M.2.1 c), M.2.2)
def qshow (P : qP) (M : qM) : qM :=
  if M.1 118 = 1 ∧ M.1 123 = 0 then
    (qu M.1 123 1, (fun c => if 28 ≤ c ∧ c < 28 + P.2.1 then M.2.1 c ++ M.2.1 (c - 2) else if 26 ≤ c ∧ c < 26 + P.2.1 then [] else M.2.1 c), M.2.2)
  else M
def qput (s : Nat) (M : qM) : qM :=
  if M.1 67 = 1 ∧ M.1 (70 + s) = 0 ∧ M.1 (9 + s) ≤ M.1 0 - M.1 68 then
    (qu (qu M.1 (70 + s) 1) (98 + s) (M.1 (13 + s)), M.2.1, fun c => if c % 4 = s ∧ c / 4 < qmany M then ((M.2.1 c).length : Int) else M.2.2 c)
  else M
def qsend (P : qP) (s : Nat) (M : qM) : qM :=
  if (P.2.2.1 s : Int) ≤ M.1 (13 + s) then M else
    let n := 200 * s + (M.1 (13 + s)).toNat
    let c := 4 * qown (qkey P n) (qmany M) + s
    if M.1 2 ≤ ((M.2.1 c).length : Int) then M else
      (qu (qu M.1 (13 + s) (M.1 (13 + s) + 1)) 8 (M.1 8 + 1), qu M.2.1 c (M.2.1 c ++ [n]), M.2.2)
/-- a worker notes its sums and puts its barriers; a sink closes what is open -/
def qcut (P : qP) (r : Nat) (M : qM) : qM :=
  if r < 4 then
    ((fun k => if 102 ≤ k ∧ k < 118 ∧ qown (k - 102) (qmany M) = r then M.1 (k - 85) else if k = 144 + r then 1 else M.1 k), M.2.1,
     fun c => if 16 ≤ c ∧ c < 16 + 4 * P.2.1 ∧ c % 4 = r then ((M.2.1 c).length : Int) else M.2.2 c)
  else (qu M.1 (144 + r) 1, qu (qu M.2.1 (22 + r) (M.2.1 (22 + r) ++ M.2.1 (20 + r))) (20 + r) [], M.2.2)
/-- what stands before the barrier of a channel -/
def qup (M : qM) (c : Nat) : List Nat := if M.2.2 c = -1 then M.2.1 c else (M.2.1 c).take (M.2.2 c).toNat
/-- an overtaking barrier arrives -/
def qover (P : qP) (r x : Nat) (M : qM) : qM :=
  let c := 4 * r + x
  let M1 := if qcnt P M r = 0 then qcut P r M else M
  (qu M1.1 (74 + c) 1, qu M1.2.1 (30 + c) (M1.2.1 (30 + c) ++ (M.2.1 c).take (M.2.2 c).toNat), qu M1.2.2 c (-1))
/-- an aligning barrier arrives -/
def qalign (P : qP) (r x : Nat) (M : qM) : qM :=
  let c := 4 * r + x
  let M1 : qM := (qu (qu M.1 (74 + c) 1) (43 + c) 1, M.2.1, qu M.2.2 c (-1))
  if qcnt P M1 r = qns P M r then
    let M2 := qcut P r M1
    ((fun k => if 43 + 4 * r ≤ k ∧ k < 43 + 4 * r + 4 then 0 else M2.1 k), M2.2)
  else M1
def qcan (P : qP) (r x : Nat) (M : qM) : Bool :=
  let c := 4 * r + x
  if M.1 (43 + c) = 1 then false else if M.2.2 c = 0 then true else
    match M.2.1 c with
    | [] => false
    | n :: _ => decide (4 ≤ r) || decide (((M.2.1 (16 + 4 * qsk P (qkey P n) + r)).length : Int) < M.1 2)
def qturn (P : qP) (r : Nat) (M : qM) : Option Nat :=
  ((List.range (qns P M r)).map (fun k => ((M.1 (37 + r)).toNat + k) % qns P M r)).find? (fun x => qcan P r x M)
/-- a record or a result is taken; g: whether it is kept -/
def qdest (P : qP) (r n : Nat) : Nat := if r < 4 then 16 + 4 * qsk P (qkey P n) + r else 20 + r
def qmv (P : qP) (g : Bool) (r x n : Nat) (rest : List Nat) (M : qM) : qM :=
  ((if r < 4 then qu (qu (qu M.1 (37 + r) (x + 1)) (17 + qkey P n) (M.1 (17 + qkey P n) + qval P n)) (33 + r) (M.1 (33 + r) + 1) else qu M.1 (37 + r) (x + 1)),
   qu (qu (qu M.2.1 (4 * r + x) rest) (30 + (4 * r + x)) (M.2.1 (30 + (4 * r + x)) ++ if g then [n] else [])) (qdest P r n) (M.2.1 (qdest P r n) ++ [n]),
   if 0 < M.2.2 (4 * r + x) then qu M.2.2 (4 * r + x) (M.2.2 (4 * r + x) - 1) else M.2.2)
def qmove (P : qP) (r x n : Nat) (rest : List Nat) (M : qM) : qM := qmv P (decide (M.1 67 = 1 ∧ M.1 69 = 1 ∧ qcnt P M r ≠ 0 ∧ M.1 (74 + (4 * r + x)) = 0)) r x n rest M
def qtake (P : qP) (r x : Nat) (M : qM) : qM :=
  if M.2.2 (4 * r + x) = 0 then qalign P r x (qS M (37 + r) (x + 1)) else
    match M.2.1 (4 * r + x) with
    | [] => M
    | n :: rest => qmove P r x n rest M
def qhandle (P : qP) (r : Nat) (M : qM) : qM :=
  match qturn P r M with
  | none => M
  | some x => qtake P r x M
def qovers (P : qP) (r : Nat) (M : qM) : qM :=
  (List.range (qns P M r)).foldl (fun M x => if M.2.2 (4 * r + x) = -1 then M else qover P r x M) M
def qfull (P : qP) (M : qM) : Bool :=
  decide (M.1 67 = 1) && (List.range P.1).all (fun s => decide (M.1 (70 + s) = 1)) && (List.range (qmany M)).all (fun i => (List.range P.1).all fun s => decide (M.1 (74 + (4 * i + s)) = 1)) && (List.range P.2.1).all (fun k => (List.range (qmany M)).all fun i => decide (M.1 (74 + (4 * (4 + k) + i)) = 1))
def qcomplete (M : qM) : qM :=
  ((fun k => if k = 67 then 0 else if k = 6 then M.1 6 + 1 else if k = 118 then 1 else if k = 119 then M.1 5 else if k = 120 then M.1 68 else if k = 121 then M.1 0 else if k = 122 then M.1 69 else if k = 123 then 0 else if 124 ≤ k ∧ k < 144 then M.1 (k - 26) else M.1 k),
   (fun c => if 54 ≤ c ∧ c < 78 then M.2.1 (c - 24) else M.2.1 c), M.2.2)
def qovert (M : qM) : Bool := decide (M.1 67 = 1) && decide (M.1 69 = 1)
def qtickA (M : qM) : qM := if M.1 3 ≠ 0 ∧ M.1 0 % M.1 3 = 0 ∧ M.1 67 = 0 then qbegin (M.1 4) M else M
def qtickC (P : qP) (M : qM) : qM := (List.range P.1).foldl (fun M s => qsend P s (qput s M)) M
def qtickD (P : qP) (M : qM) : qM := if qovert M then (List.range (qmany M)).foldl (fun M i => qovers P i M) M else M
def qtickE (P : qP) (M : qM) : qM := (List.range (qmany M)).foldl (fun M i => qhandle P i M) M
def qtickF (P : qP) (M : qM) : qM := if qovert M then (List.range P.2.1).foldl (fun M k => qovers P (4 + k) M) M else M
def qtickG (P : qP) (M : qM) : qM := (List.range P.2.1).foldl (fun M k => qhandle P (4 + k) M) M
def qtickH (P : qP) (M : qM) : qM := if qfull P M then qcomplete M else M
def qtick (P : qP) (M : qM) : qM :=
  let M1 := qtickH P (qtickG P (qtickF P (qtickE P (qtickD P (qtickC P (qshow P (qtickA M)))))))
  qS M1 0 (M1.1 0 + 1)
/-- the flow fails: what is done last is where it goes on -/
def qfail (P : qP) (M : qM) : qM :=
  let M1 := qshow P M
  ((fun k => if k = 67 then 0 else if k = 7 then M1.1 7 + 1 else if 13 ≤ k ∧ k < 33 then M1.1 (k + 111) else if 33 ≤ k ∧ k < 67 then 0 else M1.1 k),
   (fun c => if c < 24 then M1.2.1 (54 + c) else if c < 28 then [] else if 30 ≤ c ∧ c < 54 then [] else M1.2.1 c), fun _ => -1)
/-- what channel c gets of what a source's, a sink's channels hold, the workers being m -/
def qpart (P : qP) (m : Nat) (D : Nat → List Nat) (c : Nat) : List Nat :=
  if c < 16 then (if c % 4 < P.1 then ((List.range 4).flatMap (fun i => D (4 * i + c % 4))).filter (fun n => qown (qkey P n) m == c / 4) else [])
  else (if c / 4 - 4 < P.2.1 then ((List.range 4).flatMap (fun i => D (4 * (c / 4) + i))).filter (fun n => qown (qkey P n) m == c % 4) else [])
def qrescale (P : qP) (m : Nat) (M : qM) : qM :=
  let M1 := qfail P M
  (qu M1.1 1 m, (fun c => if c < 24 then qpart P m (fun d => M1.2.1 (54 + d)) c else if 54 ≤ c ∧ c < 78 then qpart P m (fun d => M1.2.1 (54 + d)) (c - 54) else M1.2.1 c), M1.2.2)
/-- the numbers of a setup: workers, room, every, overtake, lags -/
def qstart (m room every over : Int) (lag : Nat → Int) : qM :=
  ((fun k => if k = 1 then m else if k = 2 then room else if k = 3 then every else if k = 4 then over else if 9 ≤ k ∧ k < 13 then lag (k - 9) else 0), (fun _ => []), fun _ => -1)
