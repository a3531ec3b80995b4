/-! Constants: the words, their texts, what the JDK's own statics hold. -/
def zwNm : List String := ["SOURCE", "RECORDS", "SEED", "LAG", "INSTANCES", "SINKS", "ROOM", "EVERY", "OVERTAKE"]
def zwT : List (List Int32) := [[-1, -1, -1, -1, 0, 1, 2, 3, 4], [0, 0, 0, 0, 1, 1, 4, 0, 0], [0, 0, 0, 0, 1, 1, 1, 0, 1], [0, 200, 999, 9, 4, 2, 9, 99, 1]]
def zwF : List (String × String × String × List Int32) := [("BarrierFlow$Word", "setting", "I", [-1, -1, -1, -1, 0, 1, 2, 3, 4]), ("BarrierFlow$Word", "otherwise", "I", [0, 0, 0, 0, 1, 1, 4, 0, 0]), ("BarrierFlow$Word", "least", "I", [0, 0, 0, 0, 1, 1, 1, 0, 1]), ("BarrierFlow$Word", "most", "I", [0, 200, 999, 9, 4, 2, 9, 99, 1])]
def zsLen : List Nat := [6, 7, 4, 3, 9, 5, 4, 5, 8, 7, 9, 6, 5, 10, 7, 6, 7, 9, 0]
def zsByt : List (List Int32) := [[115, 111, 117, 114, 99, 101], [114, 101, 99, 111, 114, 100, 115], [115, 101, 101, 100], [108, 97, 103], [105, 110, 115, 116, 97, 110, 99, 101, 115], [115, 105, 110, 107, 115], [114, 111, 111, 109], [101, 118, 101, 114, 121], [111, 118, 101, 114, 116, 97, 107, 101], [115, 111, 117, 114, 99, 101, 32], [32, 114, 101, 99, 111, 114, 100, 115, 32], [32, 115, 101, 101, 100, 32], [32, 108, 97, 103, 32], [105, 110, 115, 116, 97, 110, 99, 101, 115, 32], [59, 115, 105, 110, 107, 115, 32], [59, 114, 111, 111, 109, 32], [59, 101, 118, 101, 114, 121, 32], [111, 118, 101, 114, 116, 97, 107, 101, 59], []]
def zlIx : List Nat := [54, 63, 68, 70, 72, 74, 76, 78, 80, 82]
def zlTx : List String := ["source ", " records ", " seed ", " lag ", "instances ", ";sinks ", ";room ", ";every ", "overtake;", ""]
abbrev zEv : Type := (Nat → Nat) × (Nat → Nat) × (Nat → Nat) × Nat × Option Nat
def zEnv (ev : zEv) (B : Nat) (U : State) : Prop :=
  va_En "BarrierFlow$Word" "LBarrierFlow$Word;" zwNm zwF ev.1 (zA B) U U.heap ∧
  va_Z "BarrierFlow" "WORDS" "[LBarrierFlow$Word;" (.ref ev.2.2.2.1) (zA B) U U.heap ∧
  va_T (.object "BarrierFlow$Word") ev.2.2.2.1 9 (fun j => .ref (ev.1 j)) (zA B) U U.heap ∧
  (∀ i, i < 9 → va_OF "BarrierFlow$Word" "text" "Ljava/lang/String;" (.ref (ev.2.1 i)) (ev.1 i) (zA B) U U.heap) ∧
  vk_S 19 zsLen zsByt ev.2.1 ev.2.2.1 (zA B) U U.heap ∧
  va_Z "java/lang/String" "COMPACT_STRINGS" "Z" (.int 1) (zA B) U U.heap ∧
  va_Z "jdk/internal/util/Preconditions" "SIOOBE_FORMATTER" "Ljava/util/function/BiFunction;" (va_rf ev.2.2.2.2) (zA B) U U.heap ∧
  (∀ i, i < 10 → vk_R "BarrierFlowLaw" (zlIx.getD i 0) (zlTx.getD i "") (ev.2.1 (9 + i)) U)
theorem zEnv_k (ev : zEv) (B : Nat) : zEk B (zEnv ev B) := by
  intro U U2 hv hh h
  have hq : ∀ a : Nat, a < U.heap.size → ¬ zA B a → U2.heap[a]? = U.heap[a]? := fun a _ h2 => hh a (Nat.not_le.mp h2)
  have ha : U.vm.Alike U2.vm := by
    rcases hv with h1 | h1
    · rw [h1]; exact Vm.Alike.refl _
    · exact h1.alike
  obtain ⟨h1, h2, h3, h4, h5, h6, h7, h8⟩ := h
  refine ⟨va_En.moved ha (h1.kept hq), va_Z.moved ha (h2.kept hq), va_T.moved ha (h3.kept hq), fun i hi => va_OF.moved ha ((h4 i hi).kept hq), vk_S.moved ha (h5.kept hq), va_Z.moved ha (h6.kept hq), va_Z.moved ha (h7.kept hq), ?_⟩
  rcases hv with h1 | h1
  · exact fun i hi => vk_R.same h1.symm (h8 i hi)
  · exact fun i hi => vk_R.warm h1 (h8 i hi)
def zwI (f k : Nat) : Option Int32 := if k < 9 then some ((zwT.getD f []).getD k 0) else none
def zwX (k : Nat) : Option Nat := if k < 9 then some k else none
def zwA (i : Int32) : Option Nat := if i < 0 ∨ 9 ≤ i.toNatClampNeg then none else some i.toNatClampNeg
def zwN : Option Int32 := some 9
def zstL (t : Nat) : Option Int32 := if t < 19 then some (Int32.ofNat (zsLen.getD t 0)) else none
def zstA (t : Nat) (i : Int32) : Option Int32 := if t < 19 then (if i < 0 ∨ zsLen.getD t 0 ≤ i.toNatClampNeg then none else some ((zsByt.getD t []).getD i.toNatClampNeg 0)) else none
def zstV (t : Nat) : Option Nat := if t < 19 then some t else none
def zstC (t : Nat) : Option Int32 := if t < 19 then some 0 else none
/-- are two words one -/
def zwE (k j : Nat) : Option Int32 := if k < 9 ∧ j < 9 then some (if k = j then 1 else 0) else none

section ZL
variable {p : Program} {l : Launch} {e : Env} {R : Room} {s : State} {m : MethodId} {args : Array Value} {below : List Frame} {meth : Method} {c : Code} {H : Heap} {locs : List Loc} {cells slots : Nat} {Q : State → Prop} {pc : Nat} {ls : Array Slot} {rest : List Value} {cc : ByteArray}
theorem va_ldcSw (hexec : p.tables.exec = Jvm.exec) (hb : c.code = cc) {own tx : String} {index q : Nat} (hown : s.vm.findClass own = some m.cls) (hZ : vk_R own index tx q s) (hdg : decode cc pc = .ok (.ldc_w index, 3))
    (k : W p l e R s m args below meth c H locs cells slots Q (F0 m (pc + 3) ls (.ref q :: rest))) : W p l e R s m args below meth c H locs cells slots Q (F0 m pc ls rest) := by
  intro T hT X
  obtain ⟨t, a1, b1⟩ := k T hT X
  refine ⟨t, ?_, b1⟩
  obtain ⟨h1, h2⟩ := hZ
  obtain ⟨kk, cf, i, a2, hk, hcf, hcp, -, hr, hev⟩ := Cond.stringRef_spec hown h1
  cases h2.symm.trans hev
  obtain ⟨k2, hk2, he⟩ := X.warmed.alike.2.2 _ _ hk
  have hr2 : k2.resolved[index]? = some (some (.string q)) := by
    rcases X.warmed.entry hk hk2 index with h | ⟨h, -⟩
    · rw [h]; exact hr
    · rw [hr] at h; cases h
  subst hb
  jvm_step X.here [hexec, hdg, ldc_w.wp_string (e := e) (s := T) (f := F0 m pc ls rest) X.here.top hk2 (by rw [he]; exact hcf) hcp hr2]
  exact a1
end ZL
section ZR
variable {p : Program} {l : Launch} {e : Env} {R : Room} {s : State} {m : MethodId} {args : Array Value} {below : List Frame} {meth : Method} {c : Code} {cells slots : Nat} {Q : State → Prop} {D : va_G} {Ca : Nat → ClassId} {B nL : Nat} {En : State → Prop} {cc : ByteArray} {own : String} {σ : zS} {N pc : Nat} {lv : List (Nat × Value)} {st : List Value}

theorem z_gsW (C : zC p s m args meth c cc own nL D Ca B En) (ev : zEv) (hZ : ∀ U : State, En U → zEnv ev B U) {index : Nat} (i : Nat) {n : String} (hi : i < 9) (hn : zwNm.getD i "" = n) (hlink : Cond.fieldLink own index "BarrierFlow$Word" n "LBarrierFlow$Word;" ∈ zTb) (hd : decode cc pc = .ok (.getstatic index, 3)) (k : zW p l e R s m args below meth c cells slots Q D Ca B nL σ N (pc + 3) (lv) (.ref (ev.1 i) :: st)) : zW p l e R s m args below meth c cells slots Q D Ca B nL σ N (pc) (lv) (st) := fun H locs ls h hS hl => by
  subst hn
  have E := hZ s C.2.2.2.2.2.2.1
  exact va_gets C.1 C.2.1 (E.1.1 i hi).1 hS C.2.2.2.2.1 (C.2.2.2.1 _ hlink) (fun _ h => h) hd (k H locs ls h hS hl)
theorem z_gsA (C : zC p s m args meth c cc "BarrierFlow$Parser" nL D Ca B En) (ev : zEv) (hZ : ∀ U : State, En U → zEnv ev B U) (hd : decode cc pc = .ok (.getstatic 141, 3)) (k : zW p l e R s m args below meth c cells slots Q D Ca B nL σ N (pc + 3) (lv) (.ref ev.2.2.2.1 :: st)) : zW p l e R s m args below meth c cells slots Q D Ca B nL σ N (pc) (lv) (st) := fun H locs ls h hS hl => by
  have E := hZ s C.2.2.2.2.2.2.1
  exact va_getsN C.1 C.2.1 E.2.1 hS C.2.2.2.2.1 (va_Nw.use rfl C.2.2.2.2.2.2.2.2.2.2.2) (fun _ h => h) hd (k H locs ls h hS hl)
theorem z_gsC (C : zC p s m args meth c cc own nL D Ca B En) (ev : zEv) (hZ : ∀ U : State, En U → zEnv ev B U) {index : Nat} (hlink : Cond.fieldLink own index "java/lang/String" "COMPACT_STRINGS" "Z" ∈ zTb) (hd : decode cc pc = .ok (.getstatic index, 3)) (k : zW p l e R s m args below meth c cells slots Q D Ca B nL σ N (pc + 3) (lv) (.int 1 :: st)) : zW p l e R s m args below meth c cells slots Q D Ca B nL σ N (pc) (lv) (st) := fun H locs ls h hS hl => by
  have E := hZ s C.2.2.2.2.2.2.1
  exact va_gets C.1 C.2.1 E.2.2.2.2.2.1 hS C.2.2.2.2.1 (C.2.2.2.1 _ hlink) (fun _ h => h) hd (k H locs ls h hS hl)
theorem z_gsF (C : zC p s m args meth c cc own nL D Ca B En) (ev : zEv) (hZ : ∀ U : State, En U → zEnv ev B U) {index : Nat} (hlink : Cond.fieldLink own index "jdk/internal/util/Preconditions" "SIOOBE_FORMATTER" "Ljava/util/function/BiFunction;" ∈ zTb) (hd : decode cc pc = .ok (.getstatic index, 3)) (k : zW p l e R s m args below meth c cells slots Q D Ca B nL σ N (pc + 3) (lv) (va_rf ev.2.2.2.2 :: st)) : zW p l e R s m args below meth c cells slots Q D Ca B nL σ N (pc) (lv) (st) := fun H locs ls h hS hl => by
  have E := hZ s C.2.2.2.2.2.2.1
  exact va_gets C.1 C.2.1 E.2.2.2.2.2.2.1 hS C.2.2.2.2.1 (C.2.2.2.1 _ hlink) (fun _ h => h) hd (k H locs ls h hS hl)
theorem z_alenW (C : zC p s m args meth c cc own nL D Ca B En) (ev : zEv) (hZ : ∀ U : State, En U → zEnv ev B U) {v : Int32} (hv : zwN = some v) (hd : decode cc pc = .ok (.arraylength, 1)) (k : zW p l e R s m args below meth c cells slots Q D Ca B nL σ N (pc + 1) (lv) (.int v :: st)) : zW p l e R s m args below meth c cells slots Q D Ca B nL σ N (pc) (lv) (.ref ev.2.2.2.1 :: st) := fun H locs ls h hS hl => by
  have E := hZ s C.2.2.2.2.2.2.1
  cases hv
  exact va_tlen C.1 C.2.1 E.2.2.1 hS (by decide) hd (k H locs ls h hS hl)
theorem z_aW (C : zC p s m args meth c cc own nL D Ca B En) (ev : zEv) (hZ : ∀ U : State, En U → zEnv ev B U) {i : Int32} {v : Nat} (hv : zwA i = some v) (hd : decode cc pc = .ok (.aaload, 1)) (k : zW p l e R s m args below meth c cells slots Q D Ca B nL σ N (pc + 1) (lv) (.ref (ev.1 v) :: st)) : zW p l e R s m args below meth c cells slots Q D Ca B nL σ N (pc) (lv) (.int i :: .ref ev.2.2.2.1 :: st) := fun H locs ls h hS hl => by
  have E := hZ s C.2.2.2.2.2.2.1
  unfold zwA at hv
  by_cases hi : i < 0 ∨ 9 ≤ i.toNatClampNeg
  · rw [if_pos hi] at hv; cases hv
  · rw [if_neg hi] at hv
    cases hv
    exact vb_tq C.1 C.2.1 E.2.2.1 hS hi rfl hd (k H locs ls h hS hl)
theorem z_gWf (C : zC p s m args meth c cc own nL D Ca B En) (ev : zEv) (hZ : ∀ U : State, En U → zEnv ev B U) {index f i : Nat} {n : String} {v : Int32} (hv : zwI f i = some v) (q : String × String × String × List Int32) (hq : q ∈ zwF) (h1 : q.1 = "BarrierFlow$Word") (h2 : q.2.1 = n) (h3 : q.2.2.1 = "I") (h4 : zwT.getD f [] = q.2.2.2) (hlink : Cond.fieldLink own index "BarrierFlow$Word" n "I" ∈ zTb) (hd : decode cc pc = .ok (.getfield index, 3)) (k : zW p l e R s m args below meth c cells slots Q D Ca B nL σ N (pc + 3) (lv) (.int v :: st)) : zW p l e R s m args below meth c cells slots Q D Ca B nL σ N (pc) (lv) (.ref (ev.1 i) :: st) := fun H locs ls h hS hl => by
  have E := hZ s C.2.2.2.2.2.2.1
  unfold zwI at hv
  by_cases hi : i < 9
  · rw [if_pos hi] at hv
    cases hv
    have e := (E.1.1 i hi).2.2 q hq
    rw [h1, h2, h3, ← h4] at e
    exact vk_getf C.1 C.2.1 e hS C.2.2.2.2.1 (C.2.2.2.1 _ hlink) (fun _ h => h) hd (k H locs ls h hS hl)
  · rw [if_neg hi] at hv; cases hv
theorem z_gWt (C : zC p s m args meth c cc own nL D Ca B En) (ev : zEv) (hZ : ∀ U : State, En U → zEnv ev B U) {index i v : Nat} (hv : zwX i = some v) (hlink : Cond.fieldLink own index "BarrierFlow$Word" "text" "Ljava/lang/String;" ∈ zTb) (hd : decode cc pc = .ok (.getfield index, 3)) (k : zW p l e R s m args below meth c cells slots Q D Ca B nL σ N (pc + 3) (lv) (.ref (ev.2.1 v) :: st)) : zW p l e R s m args below meth c cells slots Q D Ca B nL σ N (pc) (lv) (.ref (ev.1 i) :: st) := fun H locs ls h hS hl => by
  have E := hZ s C.2.2.2.2.2.2.1
  unfold zwX at hv
  by_cases hi : i < 9
  · rw [if_pos hi] at hv
    cases hv
    exact vk_getf C.1 C.2.1 (E.2.2.2.1 i hi) hS C.2.2.2.2.1 (C.2.2.2.1 _ hlink) (fun _ h => h) hd (k H locs ls h hS hl)
  · rw [if_neg hi] at hv; cases hv
theorem z_gSv (C : zC p s m args meth c cc own nL D Ca B En) (ev : zEv) (hZ : ∀ U : State, En U → zEnv ev B U) {index i v : Nat} (hv : zstV i = some v) (hlink : Cond.fieldLink own index "java/lang/String" "value" "[B" ∈ zTb) (hd : decode cc pc = .ok (.getfield index, 3)) (k : zW p l e R s m args below meth c cells slots Q D Ca B nL σ N (pc + 3) (lv) (.ref (ev.2.2.1 v) :: st)) : zW p l e R s m args below meth c cells slots Q D Ca B nL σ N (pc) (lv) (.ref (ev.2.1 i) :: st) := fun H locs ls h hS hl => by
  have E := hZ s C.2.2.2.2.2.2.1
  unfold zstV at hv
  by_cases hi : i < 19
  · rw [if_pos hi] at hv
    cases hv
    exact vk_getf C.1 C.2.1 (E.2.2.2.2.1.1 i hi).2.2.1 hS C.2.2.2.2.1 (C.2.2.2.1 _ hlink) (fun _ h => h) hd (k H locs ls h hS hl)
  · rw [if_neg hi] at hv; cases hv
theorem z_gSc (C : zC p s m args meth c cc own nL D Ca B En) (ev : zEv) (hZ : ∀ U : State, En U → zEnv ev B U) {index i : Nat} {v : Int32} (hv : zstC i = some v) (hlink : Cond.fieldLink own index "java/lang/String" "coder" "B" ∈ zTb) (hd : decode cc pc = .ok (.getfield index, 3)) (k : zW p l e R s m args below meth c cells slots Q D Ca B nL σ N (pc + 3) (lv) (.int v :: st)) : zW p l e R s m args below meth c cells slots Q D Ca B nL σ N (pc) (lv) (.ref (ev.2.1 i) :: st) := fun H locs ls h hS hl => by
  have E := hZ s C.2.2.2.2.2.2.1
  unfold zstC at hv
  by_cases hi : i < 19
  · rw [if_pos hi] at hv
    cases hv
    exact vk_getf C.1 C.2.1 (E.2.2.2.2.1.1 i hi).2.1 hS C.2.2.2.2.1 (C.2.2.2.1 _ hlink) (fun _ h => h) hd (k H locs ls h hS hl)
  · rw [if_neg hi] at hv; cases hv
theorem z_alenV (C : zC p s m args meth c cc own nL D Ca B En) (ev : zEv) (hZ : ∀ U : State, En U → zEnv ev B U) {t : Nat} {v : Int32} (hv : zstL t = some v) (hd : decode cc pc = .ok (.arraylength, 1)) (k : zW p l e R s m args below meth c cells slots Q D Ca B nL σ N (pc + 1) (lv) (.int v :: st)) : zW p l e R s m args below meth c cells slots Q D Ca B nL σ N (pc) (lv) (.ref (ev.2.2.1 t) :: st) := fun H locs ls h hS hl => by
  have E := hZ s C.2.2.2.2.2.2.1
  unfold zstL at hv
  by_cases hi : t < 19
  · rw [if_pos hi] at hv
    cases hv
    exact va_tlen C.1 C.2.1 (E.2.2.2.2.1.1 t hi).2.2.2 hS rfl hd (k H locs ls h hS hl)
  · rw [if_neg hi] at hv; cases hv
theorem z_bV (C : zC p s m args meth c cc own nL D Ca B En) (ev : zEv) (hZ : ∀ U : State, En U → zEnv ev B U) {t : Nat} {i v : Int32} (hv : zstA t i = some v) (hd : decode cc pc = .ok (.baload, 1)) (k : zW p l e R s m args below meth c cells slots Q D Ca B nL σ N (pc + 1) (lv) (.int v :: st)) : zW p l e R s m args below meth c cells slots Q D Ca B nL σ N (pc) (lv) (.int i :: .ref (ev.2.2.1 t) :: st) := fun H locs ls h hS hl => by
  have E := hZ s C.2.2.2.2.2.2.1
  unfold zstA at hv
  by_cases ht : t < 19
  · rw [if_pos ht] at hv
    by_cases hi : i < 0 ∨ zsLen.getD t 0 ≤ i.toNatClampNeg
    · rw [if_pos hi] at hv; cases hv
    · rw [if_neg hi] at hv
      cases hv
      exact va_tb C.1 C.2.1 (E.2.2.2.2.1.1 t ht).2.2.2 hS hi rfl hd (k H locs ls h hS hl)
  · rw [if_neg ht] at hv; cases hv
theorem zwE_eq {k j : Nat} {v : Int32} (C : zC p s m args meth c cc own nL D Ca B En) (ev : zEv) (hZ : ∀ U : State, En U → zEnv ev B U) (hv : zwE k j = some v) : (v = 1 → k = j) ∧ (¬ v = 1 → ¬ some (ev.1 k) = some (ev.1 j)) := by
  have E := hZ s C.2.2.2.2.2.2.1
  unfold zwE at hv
  by_cases hi : k < 9 ∧ j < 9
  · rw [if_pos hi] at hv
    cases hv
    by_cases e : k = j
    · rw [if_pos e]
      exact ⟨fun _ => e, fun h => absurd rfl h⟩
    · rw [if_neg e]
      exact ⟨fun h => absurd h (by decide), fun _ h => e (E.1.2 k j hi.1 hi.2 (Option.some.inj h))⟩
  · rw [if_neg hi] at hv; cases hv
theorem z_acmpW_ne (C : zC p s m args meth c cc own nL D Ca B En) (ev : zEv) (hZ : ∀ U : State, En U → zEnv ev B U) {k j : Nat} {v : Int32} {off : Int} (tgt : Nat) (hv : zwE k j = some v) (hd : decode cc pc = .ok (.if_acmp .ne off, 3)) (ht : (pc : Int) + off = (tgt : Int)) (kt : ¬ v = 1 → zW p l e R s m args below meth c cells slots Q D Ca B nL σ N (tgt) (lv) (st)) (kf : v = 1 → zW p l e R s m args below meth c cells slots Q D Ca B nL σ N (pc + 3) (lv) (st)) : zW p l e R s m args below meth c cells slots Q D Ca B nL σ N (pc) (lv) (.ref (ev.1 j) :: .ref (ev.1 k) :: st) := fun H locs ls h hS hl => by
  have E2 := zwE_eq C ev hZ hv
  refine lv_acmp_ne (rx := some (ev.1 k)) (ry := some (ev.1 j)) C.1 C.2.1 hd ht (fun q => kt (fun e => q (by rw [E2.1 e])) H locs ls h hS hl) (fun q => ?_)
  by_cases e : v = 1
  · exact kf e H locs ls h hS hl
  · exact absurd q (E2.2 e)
theorem z_acmpW_neN (C : zC p s m args meth c cc own nL D Ca B En) (ev : zEv) (hZ : ∀ U : State, En U → zEnv ev B U) {j : Nat} {off : Int} (tgt : Nat) (hd : decode cc pc = .ok (.if_acmp .ne off, 3)) (ht : (pc : Int) + off = (tgt : Int)) (kt : zW p l e R s m args below meth c cells slots Q D Ca B nL σ N (tgt) (lv) (st)) : zW p l e R s m args below meth c cells slots Q D Ca B nL σ N (pc) (lv) (.ref (ev.1 j) :: .null :: st) := fun H locs ls h hS hl => by
  exact lv_acmp_ne (rx := none) (ry := some (ev.1 j)) C.1 C.2.1 hd ht (fun _ => kt H locs ls h hS hl) (fun q => by cases q)
theorem z_acmpW_eq (C : zC p s m args meth c cc own nL D Ca B En) (ev : zEv) (hZ : ∀ U : State, En U → zEnv ev B U) {k j : Nat} {v : Int32} {off : Int} (tgt : Nat) (hv : zwE k j = some v) (hd : decode cc pc = .ok (.if_acmp .eq off, 3)) (ht : (pc : Int) + off = (tgt : Int)) (kt : v = 1 → zW p l e R s m args below meth c cells slots Q D Ca B nL σ N (tgt) (lv) (st)) (kf : ¬ v = 1 → zW p l e R s m args below meth c cells slots Q D Ca B nL σ N (pc + 3) (lv) (st)) : zW p l e R s m args below meth c cells slots Q D Ca B nL σ N (pc) (lv) (.ref (ev.1 j) :: .ref (ev.1 k) :: st) := fun H locs ls h hS hl => by
  have E2 := zwE_eq C ev hZ hv
  refine lv_acmp_eq (rx := some (ev.1 k)) (ry := some (ev.1 j)) C.1 C.2.1 hd ht (fun q => ?_) (fun q => kf (fun e => q (by rw [E2.1 e])) H locs ls h hS hl)
  by_cases e : v = 1
  · exact kt e H locs ls h hS hl
  · exact absurd q (E2.2 e)
theorem z_acmpW_eqN (C : zC p s m args meth c cc own nL D Ca B En) (ev : zEv) (hZ : ∀ U : State, En U → zEnv ev B U) {j : Nat} {off : Int} (tgt : Nat) (hd : decode cc pc = .ok (.if_acmp .eq off, 3)) (ht : (pc : Int) + off = (tgt : Int)) (kf : zW p l e R s m args below meth c cells slots Q D Ca B nL σ N (pc + 3) (lv) (st)) : zW p l e R s m args below meth c cells slots Q D Ca B nL σ N (pc) (lv) (.ref (ev.1 j) :: .null :: st) := fun H locs ls h hS hl => by
  exact lv_acmp_eq (rx := none) (ry := some (ev.1 j)) C.1 C.2.1 hd ht (fun q => by cases q) (fun _ => kf H locs ls h hS hl)
theorem z_callTi (C : zC p s m args meth c cc own nL D Ca B En) (ev : zEv) (hZ : ∀ U : State, En U → zEnv ev B U) {y : MethodName} {bytes : ByteArray} {mL F L F0 L0 index n t : Nat} {ret : Option FieldType} {As : List Value} {τ : zS} {r : Int32} {stk : List Value} (hM : zMi l D Ca B En y bytes mL ret F L (.ref (ev.2.1 t) :: As) σ N τ r) (hRm : zRm R F0 L0 cells slots) (hk : t < 19) (hc : y.cls = "java/lang/String") (hcode : Cond.code y bytes mL ret ∈ zTb) (hini : Cond.initialized y.cls ∈ zTb) (hlink : Cond.methodLink own index y ∈ zTb) (hinst : Cond.instanceMethod y ∈ zTb) (hsel : Cond.selects y.cls y y ∈ zTb) (hy : y.cls ≠ "java/lang/invoke/MethodHandle" ∧ y.cls ≠ "java/lang/invoke/VarHandle" ∧ (parseMethodDescriptor y.desc).map (fun d => d.parameters.length) = some n) (hF : F + 1 ≤ F0) (hL : 8 + (mL + 11) + L ≤ L0) (hn : As.length = n) (hstk : stk = As.reverse ++ .ref (ev.2.1 t) :: st) (hcat : (st.map fun v => v.category).sum ≤ 8) (hd : decode cc pc = .ok (.invokevirtual index, 3)) (kk : zW p l e R s m args below meth c cells slots Q D Ca B nL τ N (pc + 3) (lv) (.int r :: st)) : zW p l e R s m args below meth c cells slots Q D Ca B nL σ N (pc) (lv) (stk) := by
  intro H locs ls h hS hl
  have E := hZ s C.2.2.2.2.2.2.1
  refine va_calli (va_runV (As := As) (rest := st) ⟨C.1, C.2.1, C.2.2.1, C.2.2.2.2.1, C.2.2.2.1⟩ hM ⟨zcB C hRm hcode hini hlink hy hF hL, C.2.2.2.1 _ hinst, C.2.2.2.1 _ hsel⟩ ⟨zBlind C.2.2.2.2.2.2.2.1, by rw [hc]; exact vk_recv E.2.2.2.2.1 hk hS, fun U hU hW => ⟨rfl, zIn_of C h hS hU hW⟩⟩ rfl hn hl.1 hstk (lv_room hcat) hd ⟨hRm.2.2.1, hRm.2.2.2⟩) hS (fun q _ h => h) (fun q h => h) (fun r2 u t2 H1 locs1 ht hvm hp hB hz hk1 hS1 => ?_)
  subst hp
  exact kk H1 locs1 ls (by rw [← ht]; exact hB.1) hS1 hl
theorem zn_byte {v : Int32} (h : v.toInt8.toInt32 = v) : narrow .byte (.int v) = .int v := by
  show Value.int v.toInt8.toInt32 = .int v
  rw [h]
theorem zn_char {v : Int32} (h : (v.toUInt32 % 65536).toInt32 = v) : narrow .char (.int v) = .int v := by
  show Value.int (v.toUInt32 % 65536).toInt32 = .int v
  rw [h]
def zrB (σ : zS) (r : Int32) : Option (zS × Int32) := if r.toInt8.toInt32 = r then some (σ, r) else none
def zrC (σ : zS) (r : Int32) : Option (zS × Int32) := if (r.toUInt32 % 65536).toInt32 = r then some (σ, r) else none
theorem zrB_ok {σ : zS} {r : Int32} {x : zS × Int32} (h : zrB σ r = some x) : (σ, r) = x ∧ r.toInt8.toInt32 = r := by
  unfold zrB at h
  by_cases hk : r.toInt8.toInt32 = r
  · rw [if_pos hk] at h; exact ⟨Option.some.inj h, hk⟩
  · rw [if_neg hk] at h; cases h
theorem zrC_ok {σ : zS} {r : Int32} {x : zS × Int32} (h : zrC σ r = some x) : (σ, r) = x ∧ (r.toUInt32 % 65536).toInt32 = r := by
  unfold zrC at h
  by_cases hk : (r.toUInt32 % 65536).toInt32 = r
  · rw [if_pos hk] at h; exact ⟨Option.some.inj h, hk⟩
  · rw [if_neg hk] at h; cases h
theorem zfin_b (C : zC p s m args meth c cc own nL D Ca B En) {r : Int32} (hb : r.toInt8.toInt32 = r) (hr : meth.sig.returnType = some .byte) (hd : decode cc pc = .ok (.ireturn, 1)) : zW p l e R s m args below meth c 0 0 (MQ below (va_Qi (fun (r2 : Int32) (_ : Unit) => r2 = r) (fun _ => zIn D Ca B En σ N) (zA B)) args s 0 0 (zA B)) D Ca B nL σ N pc lv [.int r] := fun H locs ls h hS hl =>
  W.zret C.1 C.2.1 hr (zn_byte hb) (fun t ht hW => ⟨⟨r, (), rfl, rfl, zIn_of C h hS ht hW⟩, hS.F ht⟩) hS.2.2 hd C.2.2.2.2.2.2.2.2.2.1
theorem zfin_c (C : zC p s m args meth c cc own nL D Ca B En) {r : Int32} (hb : (r.toUInt32 % 65536).toInt32 = r) (hr : meth.sig.returnType = some .char) (hd : decode cc pc = .ok (.ireturn, 1)) : zW p l e R s m args below meth c 0 0 (MQ below (va_Qi (fun (r2 : Int32) (_ : Unit) => r2 = r) (fun _ => zIn D Ca B En σ N) (zA B)) args s 0 0 (zA B)) D Ca B nL σ N pc lv [.int r] := fun H locs ls h hS hl =>
  W.zret C.1 C.2.1 hr (zn_char hb) (fun t ht hW => ⟨⟨r, (), rfl, rfl, zIn_of C h hS ht hW⟩, hS.F ht⟩) hS.2.2 hd C.2.2.2.2.2.2.2.2.2.1
def zsck {α : Type} (t : Nat) (f : Option α) : Option α := if t < 19 then f else none
theorem zsck_ok {α : Type} {t : Nat} {f : Option α} {x : α} (h : zsck t f = some x) : t < 19 ∧ f = some x := by
  unfold zsck at h
  by_cases hk : t < 19
  · rw [if_pos hk] at h; exact ⟨hk, h⟩
  · rw [if_neg hk] at h; cases h
end ZR
