/-! What the premises give of the start: constants, what throwing wants, classes and rows. -/
abbrev zEn (ev : zEv) (B : Nat) (U : State) : Prop := zEnv ev B U ∧ zThr B U ∧ (va_Nc (zEx 4) (zEx 1) U ∧ va_Nc (zEx 2) (zEx 1) U) ∧ va_AO "BarrierFlow$Flow" U
theorem zEn_k (ev : zEv) (B : Nat) : zEk B (zEn ev B) := by
  intro U U2 hv hh h
  obtain ⟨h1, ⟨⟨h2, h3⟩, h4⟩, ⟨h5, h6⟩, h7⟩ := h
  have hq : ∀ a : Nat, a < U.heap.size → ¬ zA B a → U2.heap[a]? = U.heap[a]? := fun a _ h9 => hh a (Nat.not_le.mp h9)
  have ha : U.vm.Alike U2.vm := by
    rcases hv with h1 | h1
    · rw [h1]; exact Vm.Alike.refl _
    · exact h1.alike
  refine ⟨zEnv_k ev B U U2 hv hh h1, ⟨⟨vx_Zq.moved ha (h2.kept hq), vx_Zq.moved ha (h3.kept hq)⟩, fun w hw => ?_⟩, ⟨va_Nc.moved ha h5, va_Nc.moved ha h6⟩, va_AO.moved ha h7⟩
  have h9 := h4 w hw
  rcases hv with h1 | h1
  · exact va_Nw.same (zEo w hw) h1 h9
  · unfold zEbL at hw
    rcases List.mem_append.mp hw with hw | hw
    · obtain ⟨q, -, rfl⟩ := List.mem_map.mp hw
      exact va_Nw.warmD h1 h9
    · simp only [List.mem_cons, List.not_mem_nil, or_false] at hw
      rcases hw with rfl | rfl | rfl | rfl <;> exact va_Nw.warmC h1 h9
abbrev zFl : List Cond := flatC (Jvm.Cond.and given_1 narrow_1)
def zTm (i : Nat) : Term := if i = 9 then .string "BarrierFlowModel" 392 else .string "BarrierFlow$Word" ([70, 76, 79, 82, 85, 88, 91, 94, 97].getD i 0)
abbrev zSt (i : Nat) : Term := .static "BarrierFlow$Word" (zwNm.getD i "") "LBarrierFlow$Word;"
set_option maxRecDepth 100000 in
theorem zf_ex : ∀ i, i < zwNm.length → Cond.exactly (zSt i) "BarrierFlow$Word" ∈ zFl := by decide +kernel
set_option maxRecDepth 100000 in
theorem zf_fi : ∀ q, q ∈ zwF → ∀ i, i < zwNm.length → Cond.eq (.field (zSt i) q.1 q.2.1 q.2.2.1) (.int (q.2.2.2.getD i 0)) ∈ zFl := by decide +kernel
set_option maxRecDepth 100000 in
theorem zf_ne : ∀ i, i < zwNm.length → ∀ j, j < zwNm.length → i ≠ j → Cond.not (.eq (zSt i) (zSt j)) ∈ zFl ∨ Cond.not (.eq (zSt j) (zSt i)) ∈ zFl := by decide +kernel
set_option maxRecDepth 100000 in
theorem zf_tx : ∀ i, i < 9 → Cond.eq (.field (zSt i) "BarrierFlow$Word" "text" "Ljava/lang/String;") (zTm i) ∈ zFl := by decide +kernel
set_option maxRecDepth 100000 in
theorem zf_sx : ∀ i, i < 10 → Cond.exactly (zTm i) "java/lang/String" ∈ zFl ∧ Cond.eq (.field (zTm i) "java/lang/String" "coder" "B") (.int 0) ∈ zFl ∧ Cond.arrayOf (.field (zTm i) "java/lang/String" "value" "[B") .byte ∈ zFl ∧ Cond.eq (.length (.field (zTm i) "java/lang/String" "value" "[B")) (.int (Int32.ofNat (zsLen.getD i 0))) ∈ zFl := by decide +kernel

set_option maxRecDepth 100000 in
theorem zf_se0 : ∀ j, j < 6 → zFl[314 + j]? = some (Cond.eq (.elem (.field (zTm 0) "java/lang/String" "value" "[B") (.int (Int32.ofNat j))) (.int ((zsByt.getD 0 []).getD j 0))) := by decide +kernel
set_option maxRecDepth 100000 in
theorem zf_se1 : ∀ j, j < 7 → zFl[330 + j]? = some (Cond.eq (.elem (.field (zTm 1) "java/lang/String" "value" "[B") (.int (Int32.ofNat j))) (.int ((zsByt.getD 1 []).getD j 0))) := by decide +kernel
set_option maxRecDepth 100000 in
theorem zf_se2 : ∀ j, j < 4 → zFl[348 + j]? = some (Cond.eq (.elem (.field (zTm 2) "java/lang/String" "value" "[B") (.int (Int32.ofNat j))) (.int ((zsByt.getD 2 []).getD j 0))) := by decide +kernel
set_option maxRecDepth 100000 in
theorem zf_se3 : ∀ j, j < 3 → zFl[364 + j]? = some (Cond.eq (.elem (.field (zTm 3) "java/lang/String" "value" "[B") (.int (Int32.ofNat j))) (.int ((zsByt.getD 3 []).getD j 0))) := by decide +kernel
set_option maxRecDepth 100000 in
theorem zf_se4 : ∀ j, j < 9 → zFl[258 + j]? = some (Cond.eq (.elem (.field (zTm 4) "java/lang/String" "value" "[B") (.int (Int32.ofNat j))) (.int ((zsByt.getD 4 []).getD j 0))) := by decide +kernel
set_option maxRecDepth 100000 in
theorem zf_se5 : ∀ j, j < 5 → zFl[248 + j]? = some (Cond.eq (.elem (.field (zTm 5) "java/lang/String" "value" "[B") (.int (Int32.ofNat j))) (.int ((zsByt.getD 5 []).getD j 0))) := by decide +kernel
set_option maxRecDepth 100000 in
theorem zf_se6 : ∀ j, j < 4 → zFl[273 + j]? = some (Cond.eq (.elem (.field (zTm 6) "java/lang/String" "value" "[B") (.int (Int32.ofNat j))) (.int ((zsByt.getD 6 []).getD j 0))) := by decide +kernel
set_option maxRecDepth 100000 in
theorem zf_se7 : ∀ j, j < 5 → zFl[284 + j]? = some (Cond.eq (.elem (.field (zTm 7) "java/lang/String" "value" "[B") (.int (Int32.ofNat j))) (.int ((zsByt.getD 7 []).getD j 0))) := by decide +kernel
set_option maxRecDepth 100000 in
theorem zf_se8 : ∀ j, j < 8 → zFl[297 + j]? = some (Cond.eq (.elem (.field (zTm 8) "java/lang/String" "value" "[B") (.int (Int32.ofNat j))) (.int ((zsByt.getD 8 []).getD j 0))) := by decide +kernel
set_option maxRecDepth 100000 in
theorem zf_se9 : ∀ j, j < 60 → zFl[184 + j]? = some (Cond.eq (.elem (.field (zTm 9) "java/lang/String" "value" "[B") (.int (Int32.ofNat j))) (.int ((zsByt.getD 9 []).getD j 0))) := by decide +kernel
theorem zf_se : ∀ i, i < 10 → ∀ j, j < zsLen.getD i 0 → Cond.eq (.elem (.field (zTm i) "java/lang/String" "value" "[B") (.int (Int32.ofNat j))) (.int ((zsByt.getD i []).getD j 0)) ∈ zFl := by
  intro i hi j hj
  match i, hi with
  | 0, _ => exact List.mem_of_getElem? (zf_se0 j hj)
  | 1, _ => exact List.mem_of_getElem? (zf_se1 j hj)
  | 2, _ => exact List.mem_of_getElem? (zf_se2 j hj)
  | 3, _ => exact List.mem_of_getElem? (zf_se3 j hj)
  | 4, _ => exact List.mem_of_getElem? (zf_se4 j hj)
  | 5, _ => exact List.mem_of_getElem? (zf_se5 j hj)
  | 6, _ => exact List.mem_of_getElem? (zf_se6 j hj)
  | 7, _ => exact List.mem_of_getElem? (zf_se7 j hj)
  | 8, _ => exact List.mem_of_getElem? (zf_se8 j hj)
  | 9, _ => exact List.mem_of_getElem? (zf_se9 j hj)
  | i + 10, hi => exact absurd hi (by omega)
set_option maxRecDepth 100000 in
theorem zf_sn0 : ∀ j, j < 10 → 0 ≠ j → zFl[([0, 343, 358, 373, 322, 321, 323, 324, 325, 320] : List Nat).getD j 0]? = some (Cond.not (Cond.eq (zTm 0) (zTm j))) ∨ zFl[([0, 343, 358, 373, 322, 321, 323, 324, 325, 320] : List Nat).getD j 0]? = some (Cond.not (Cond.eq (zTm j) (zTm 0))) := by decide +kernel
set_option maxRecDepth 100000 in
theorem zf_sn1 : ∀ j, j < 10 → 1 ≠ j → zFl[([343, 0, 359, 374, 339, 338, 340, 341, 342, 337] : List Nat).getD j 0]? = some (Cond.not (Cond.eq (zTm 1) (zTm j))) ∨ zFl[([343, 0, 359, 374, 339, 338, 340, 341, 342, 337] : List Nat).getD j 0]? = some (Cond.not (Cond.eq (zTm j) (zTm 1))) := by decide +kernel
set_option maxRecDepth 100000 in
theorem zf_sn2 : ∀ j, j < 10 → 2 ≠ j → zFl[([358, 359, 0, 375, 354, 353, 355, 356, 357, 352] : List Nat).getD j 0]? = some (Cond.not (Cond.eq (zTm 2) (zTm j))) ∨ zFl[([358, 359, 0, 375, 354, 353, 355, 356, 357, 352] : List Nat).getD j 0]? = some (Cond.not (Cond.eq (zTm j) (zTm 2))) := by decide +kernel
set_option maxRecDepth 100000 in
theorem zf_sn3 : ∀ j, j < 10 → 3 ≠ j → zFl[([373, 374, 375, 0, 369, 368, 370, 371, 372, 367] : List Nat).getD j 0]? = some (Cond.not (Cond.eq (zTm 3) (zTm j))) ∨ zFl[([373, 374, 375, 0, 369, 368, 370, 371, 372, 367] : List Nat).getD j 0]? = some (Cond.not (Cond.eq (zTm j) (zTm 3))) := by decide +kernel
set_option maxRecDepth 100000 in
theorem zf_sn4 : ∀ j, j < 10 → 4 ≠ j → zFl[([322, 339, 354, 369, 0, 268, 279, 291, 307, 267] : List Nat).getD j 0]? = some (Cond.not (Cond.eq (zTm 4) (zTm j))) ∨ zFl[([322, 339, 354, 369, 0, 268, 279, 291, 307, 267] : List Nat).getD j 0]? = some (Cond.not (Cond.eq (zTm j) (zTm 4))) := by decide +kernel
set_option maxRecDepth 100000 in
theorem zf_sn5 : ∀ j, j < 10 → 5 ≠ j → zFl[([321, 338, 353, 368, 268, 0, 278, 290, 306, 253] : List Nat).getD j 0]? = some (Cond.not (Cond.eq (zTm 5) (zTm j))) ∨ zFl[([321, 338, 353, 368, 268, 0, 278, 290, 306, 253] : List Nat).getD j 0]? = some (Cond.not (Cond.eq (zTm j) (zTm 5))) := by decide +kernel
set_option maxRecDepth 100000 in
theorem zf_sn6 : ∀ j, j < 10 → 6 ≠ j → zFl[([323, 340, 355, 370, 279, 278, 0, 292, 308, 277] : List Nat).getD j 0]? = some (Cond.not (Cond.eq (zTm 6) (zTm j))) ∨ zFl[([323, 340, 355, 370, 279, 278, 0, 292, 308, 277] : List Nat).getD j 0]? = some (Cond.not (Cond.eq (zTm j) (zTm 6))) := by decide +kernel
set_option maxRecDepth 100000 in
theorem zf_sn7 : ∀ j, j < 10 → 7 ≠ j → zFl[([324, 341, 356, 371, 291, 290, 292, 0, 309, 289] : List Nat).getD j 0]? = some (Cond.not (Cond.eq (zTm 7) (zTm j))) ∨ zFl[([324, 341, 356, 371, 291, 290, 292, 0, 309, 289] : List Nat).getD j 0]? = some (Cond.not (Cond.eq (zTm j) (zTm 7))) := by decide +kernel
set_option maxRecDepth 100000 in
theorem zf_sn8 : ∀ j, j < 10 → 8 ≠ j → zFl[([325, 342, 357, 372, 307, 306, 308, 309, 0, 305] : List Nat).getD j 0]? = some (Cond.not (Cond.eq (zTm 8) (zTm j))) ∨ zFl[([325, 342, 357, 372, 307, 306, 308, 309, 0, 305] : List Nat).getD j 0]? = some (Cond.not (Cond.eq (zTm j) (zTm 8))) := by decide +kernel
set_option maxRecDepth 100000 in
theorem zf_sn9 : ∀ j, j < 10 → 9 ≠ j → zFl[([320, 337, 352, 367, 267, 253, 277, 289, 305, 0] : List Nat).getD j 0]? = some (Cond.not (Cond.eq (zTm 9) (zTm j))) ∨ zFl[([320, 337, 352, 367, 267, 253, 277, 289, 305, 0] : List Nat).getD j 0]? = some (Cond.not (Cond.eq (zTm j) (zTm 9))) := by decide +kernel
theorem zf_sn : ∀ i, i < 10 → ∀ j, j < 10 → i ≠ j → Cond.not (Cond.eq (zTm i) (zTm j)) ∈ zFl ∨ Cond.not (Cond.eq (zTm j) (zTm i)) ∈ zFl := by
  intro i hi j hj hij
  match i, hi, hij with
  | 0, _, hij => exact (zf_sn0 j hj hij).imp List.mem_of_getElem? List.mem_of_getElem?
  | 1, _, hij => exact (zf_sn1 j hj hij).imp List.mem_of_getElem? List.mem_of_getElem?
  | 2, _, hij => exact (zf_sn2 j hj hij).imp List.mem_of_getElem? List.mem_of_getElem?
  | 3, _, hij => exact (zf_sn3 j hj hij).imp List.mem_of_getElem? List.mem_of_getElem?
  | 4, _, hij => exact (zf_sn4 j hj hij).imp List.mem_of_getElem? List.mem_of_getElem?
  | 5, _, hij => exact (zf_sn5 j hj hij).imp List.mem_of_getElem? List.mem_of_getElem?
  | 6, _, hij => exact (zf_sn6 j hj hij).imp List.mem_of_getElem? List.mem_of_getElem?
  | 7, _, hij => exact (zf_sn7 j hj hij).imp List.mem_of_getElem? List.mem_of_getElem?
  | 8, _, hij => exact (zf_sn8 j hj hij).imp List.mem_of_getElem? List.mem_of_getElem?
  | 9, _, hij => exact (zf_sn9 j hj hij).imp List.mem_of_getElem? List.mem_of_getElem?
  | i + 10, hi, _ => exact absurd hi (by omega)
set_option maxRecDepth 100000 in
theorem zf_w : Cond.arrayOf (.static "BarrierFlow" "WORDS" "[LBarrierFlow$Word;") (.object "BarrierFlow$Word") ∈ zFl ∧ Cond.eq (.length (.static "BarrierFlow" "WORDS" "[LBarrierFlow$Word;")) (.int (Int32.ofNat 9)) ∈ zFl ∧ Cond.eq (.static "java/lang/String" "COMPACT_STRINGS" "Z") (.int 1) ∈ zFl ∧ Cond.isRef (.static "jdk/internal/util/Preconditions" "SIOOBE_FORMATTER" "Ljava/util/function/BiFunction;") ∈ zFl ∧ Cond.isRef (.static Bundle.tN "UNASSIGNED_STACK" Bundle.steD) ∈ zFl ∧ Cond.isRef (.static Bundle.tN "SUPPRESSED_SENTINEL" Bundle.listD) ∈ zFl ∧ Cond.not (.castable (zEx 4) (zEx 1)) ∈ zFl ∧ Cond.not (.castable (zEx 2) (zEx 1)) ∈ zFl := by decide +kernel
set_option maxRecDepth 100000 in
theorem zf_we : ∀ j, j < 9 → Cond.eq (.elem (.static "BarrierFlow" "WORDS" "[LBarrierFlow$Word;") (.int (Int32.ofNat j))) (zSt j) ∈ zFl := by decide +kernel
section ZST
variable {s : State} {b : Nat}
theorem zl_st (hts : ∀ w ∈ lw_tbl, w.before #[Value.ref b] s = true) : ∀ i, i < zwNm.length → (Cond.laysStatic "BarrierFlow$Word" (zwNm.getD i "") "LBarrierFlow$Word;").before #[Value.ref b] s = true := by
  intro i hi
  match i, hi with
  | 0, _ => exact (hts (Jvm.Cond.laysStatic "BarrierFlow$Word" "SOURCE" "LBarrierFlow$Word;") (List.mem_append_right _ (List.mem_of_getElem? (i := 580) (by decide +kernel))))
  | 1, _ => exact (hts (Jvm.Cond.laysStatic "BarrierFlow$Word" "RECORDS" "LBarrierFlow$Word;") (List.mem_append_right _ (List.mem_of_getElem? (i := 607) (by decide +kernel))))
  | 2, _ => exact (hts (Jvm.Cond.laysStatic "BarrierFlow$Word" "SEED" "LBarrierFlow$Word;") (List.mem_append_right _ (List.mem_of_getElem? (i := 617) (by decide +kernel))))
  | 3, _ => exact (hts (Jvm.Cond.laysStatic "BarrierFlow$Word" "LAG" "LBarrierFlow$Word;") (List.mem_append_right _ (List.mem_of_getElem? (i := 619) (by decide +kernel))))
  | 4, _ => exact (hts (Jvm.Cond.laysStatic "BarrierFlow$Word" "INSTANCES" "LBarrierFlow$Word;") (List.mem_append_right _ (List.mem_of_getElem? (i := 289) (by decide +kernel))))
  | 5, _ => exact (hts (Jvm.Cond.laysStatic "BarrierFlow$Word" "SINKS" "LBarrierFlow$Word;") (List.mem_append_right _ (List.mem_of_getElem? (i := 173) (by decide +kernel))))
  | 6, _ => exact (hts (Jvm.Cond.laysStatic "BarrierFlow$Word" "ROOM" "LBarrierFlow$Word;") (List.mem_append_right _ (List.mem_of_getElem? (i := 292) (by decide +kernel))))
  | 7, _ => exact (hts (Jvm.Cond.laysStatic "BarrierFlow$Word" "EVERY" "LBarrierFlow$Word;") (List.mem_append_right _ (List.mem_of_getElem? (i := 294) (by decide +kernel))))
  | 8, _ => exact (hts (Jvm.Cond.laysStatic "BarrierFlow$Word" "OVERTAKE" "LBarrierFlow$Word;") (List.mem_append_right _ (List.mem_of_getElem? (i := 296) (by decide +kernel))))
  | i + 9, hi => exact absurd hi (show ¬ i + 9 < 9 by omega)
theorem zEnv_start (hts : ∀ w ∈ lw_tbl, w.before #[Value.ref b] s = true) (hgv : (Jvm.Cond.and given_1 narrow_1).before #[Value.ref b] s = true) : ∃ ev, zEnv ev s.heap.size s := by
  have hs : ∀ w, w ∈ zFl → w.before #[Value.ref b] s = true := flat_of_before _ hgv
  have hA : ∀ a : Nat, a < s.heap.size → ¬ zA s.heap.size a := fun a h1 h2 => absurd h2 (Nat.not_le.mpr h1)
  obtain ⟨ad, hEn, had⟩ := va_Enof2 (E := "BarrierFlow$Word") (d := "LBarrierFlow$Word;") (nm := zwNm) (F := zwF) (A := zA s.heap.size) (zl_st hts) (hts (Jvm.Cond.initialized "BarrierFlow$Word") (List.mem_append_right _ (List.mem_of_getElem? (i := 7) (by decide +kernel)))) (fun i hi => hs _ (zf_ex i hi)) (fun q hq i hi => hs _ (zf_fi q hq i hi)) (fun i j hi hj hij => (zf_ne i hi j hj hij).imp (hs _) (hs _)) hA
  obtain ⟨adK, adV, hS, hK⟩ := vk_Sof (args := #[Value.ref b]) (s := s) (N := 10) (tm := zTm) (len := zsLen) (byt := zsByt) (A := zA s.heap.size) (by decide) (fun i hi => hs _ (zf_sx i hi).1) (fun i hi => hs _ (zf_sx i hi).2.1) (fun i hi => hs _ (zf_sx i hi).2.2.1) (fun i hi => hs _ (zf_sx i hi).2.2.2) (fun i hi j hj => hs _ (zf_se i hi j hj)) (fun i j hi hj hij => (zf_sn i hi j hj hij).imp (hs _) (hs _)) hA
  have hOF : va_Ef 9 "BarrierFlow$Word" "text" "Ljava/lang/String;" (fun i => .ref (adK i)) ad (zA s.heap.size) s s.heap := va_Efof (E := "BarrierFlow$Word") (d0 := "LBarrierFlow$Word;") (nm := zwNm) (tm := zTm) (fun i hi => had i hi) (fun i hi => hs _ (zf_tx i hi)) (fun i hi => hK i (by omega)) hA
  obtain ⟨t, ht, hT⟩ := va_Tof (args := #[Value.ref b]) (s := s) (tm := .static "BarrierFlow" "WORDS" "[LBarrierFlow$Word;") (ty := .object "BarrierFlow$Word") (N := 9) (f := fun j => .ref (ad j)) (A := zA s.heap.size) (by decide) (hs _ zf_w.1) (va_eqt (hs _ zf_w.2.1)) (fun j hj => va_eqv (hs _ (zf_we j hj)) (had j hj)) hA
  have hW := va_Zref (hts (Jvm.Cond.laysStatic "BarrierFlow" "WORDS" "[LBarrierFlow$Word;") (List.mem_append_right _ (List.mem_of_getElem? (i := 526) (by decide +kernel)))) (hts (Jvm.Cond.initialized "BarrierFlow") (List.mem_append_right _ (List.mem_of_getElem? (i := 1) (by decide +kernel)))) ht hA
  have hC := va_Zof (v := .int 1) (hts (Jvm.Cond.laysStatic "java/lang/String" "COMPACT_STRINGS" "Z") (List.mem_append_right _ (List.mem_of_getElem? (i := 540) (by decide +kernel)))) (hts (Jvm.Cond.initialized "java/lang/String") (List.mem_append_right _ (List.mem_of_getElem? (i := 15) (by decide +kernel)))) (va_eqt (hs _ zf_w.2.2.1)) hA
  have hR : vk_R "BarrierFlowModel" 392 "instances sinks room every overtake source records seed lag " (adK 9) s := vk_R.of (hts (Jvm.Cond.stringRef "BarrierFlowModel" (392 : Nat) "instances sinks room every overtake source records seed lag ") (List.mem_append_right _ (List.mem_of_getElem? (i := 1843) (by decide +kernel)))) (hK 9 (by omega))
  rcases va_Zqof (hts (Jvm.Cond.laysStatic "jdk/internal/util/Preconditions" "SIOOBE_FORMATTER" "Ljava/util/function/BiFunction;") (List.mem_append_right _ (List.mem_of_getElem? (i := 556) (by decide +kernel)))) (hts (Jvm.Cond.initialized "jdk/internal/util/Preconditions") (List.mem_append_right _ (List.mem_of_getElem? (i := 17) (by decide +kernel)))) (hs _ zf_w.2.2.2.1) hA with hF | ⟨f, hF⟩
  · exact ⟨(ad, adK, adV, t, none), hEn, hW, hT, hOF, hS, hC, hF, hR⟩
  · exact ⟨(ad, adK, adV, t, some f), hEn, hW, hT, hOF, hS, hC, hF, hR⟩
theorem zThr_start (hts : ∀ w ∈ lw_tbl, w.before #[Value.ref b] s = true) (hgv : (Jvm.Cond.and given_1 narrow_1).before #[Value.ref b] s = true) : zThr s.heap.size s := by
  have hs : ∀ w, w ∈ zFl → w.before #[Value.ref b] s = true := flat_of_before _ hgv
  have hA : ∀ a : Nat, a < s.heap.size → ¬ zA s.heap.size a := fun a h1 h2 => absurd h2 (Nat.not_le.mpr h1)
  refine ⟨⟨vx_Zqof (hts (Jvm.Cond.laysStatic "java/lang/Throwable" "UNASSIGNED_STACK" "[Ljava/lang/StackTraceElement;") (List.mem_append_right _ (List.mem_of_getElem? (i := 901) (by decide +kernel)))) (hts (Jvm.Cond.initialized "java/lang/Throwable") (List.mem_append_right _ (List.mem_of_getElem? (i := 19) (by decide +kernel)))) (hs _ zf_w.2.2.2.2.1) hA, vx_Zqof (hts (Jvm.Cond.laysStatic "java/lang/Throwable" "SUPPRESSED_SENTINEL" "Ljava/util/List;") (List.mem_append_right _ (List.mem_of_getElem? (i := 903) (by decide +kernel)))) (hts (Jvm.Cond.initialized "java/lang/Throwable") (List.mem_append_right _ (List.mem_of_getElem? (i := 19) (by decide +kernel)))) (hs _ zf_w.2.2.2.2.2.1) hA⟩, fun w hw => va_Nw.of (A := #[Value.ref b]) (zEo w hw) ?_⟩
  unfold zEbL at hw
  rcases List.mem_append.mp hw with hw | hw
  · obtain ⟨q, hq, rfl⟩ := List.mem_map.mp hw
    simp only [zEdL, List.mem_cons, List.not_mem_nil, or_false] at hq
    rcases hq with rfl | rfl | rfl
    · exact (hts (Jvm.Cond.declares ({ cls := "java/lang/RuntimeException", name := "<init>", desc := "()V" } : Jvm.MethodName)) (List.mem_append_right _ (List.mem_of_getElem? (i := 877) (by decide +kernel))))
    · exact (hts (Jvm.Cond.declares ({ cls := "java/lang/Exception", name := "<init>", desc := "()V" } : Jvm.MethodName)) (List.mem_append_right _ (List.mem_of_getElem? (i := 879) (by decide +kernel))))
    · exact (hts (Jvm.Cond.declares ({ cls := "java/lang/Throwable", name := "<init>", desc := "()V" } : Jvm.MethodName)) (List.mem_append_right _ (List.mem_of_getElem? (i := 881) (by decide +kernel))))
  · simp only [List.mem_cons, List.not_mem_nil, or_false] at hw
    rcases hw with rfl | rfl | rfl | rfl
    · exact (hts (Jvm.Cond.castable "java/lang/IndexOutOfBoundsException" "java/lang/IndexOutOfBoundsException") (List.mem_append_right _ (List.mem_of_getElem? (i := 876) (by decide +kernel))))
    · exact (hts (Jvm.Cond.castable "java/lang/IllegalArgumentException" "java/lang/IllegalArgumentException") (List.mem_append_right _ (List.mem_of_getElem? (i := 961) (by decide +kernel))))
    · exact (hts (Jvm.Cond.castable "java/lang/IllegalStateException" "java/lang/IllegalStateException") (List.mem_append_right _ (List.mem_of_getElem? (i := 1139) (by decide +kernel))))
    · exact (hts (Jvm.Cond.castable "java/util/NoSuchElementException" "java/util/NoSuchElementException") (List.mem_append_right _ (List.mem_of_getElem? (i := 1031) (by decide +kernel))))
theorem zEn_start (hts : ∀ w ∈ lw_tbl, w.before #[Value.ref b] s = true) (hgv : (Jvm.Cond.and given_1 narrow_1).before #[Value.ref b] s = true) : ∃ ev, zEn ev s.heap.size s := by
  have hs : ∀ w, w ∈ zFl → w.before #[Value.ref b] s = true := flat_of_before _ hgv
  obtain ⟨ev, h⟩ := zEnv_start hts hgv
  exact ⟨ev, h, zThr_start hts hgv, ⟨va_Nc.of (hs _ zf_w.2.2.2.2.2.2.1), va_Nc.of (hs _ zf_w.2.2.2.2.2.2.2)⟩, va_AO.of (hts (Jvm.Cond.arrayOver (Jvm.ClassFile.FieldType.object "BarrierFlow$Flow")) (List.mem_append_right _ (List.mem_of_getElem? (i := 436) (by decide +kernel))))⟩
theorem zNest_start (hts : ∀ w ∈ lw_tbl, w.before #[Value.ref b] s = true) : zNest s := by
  refine ⟨?_, va_Nw.of rfl (hts (Jvm.Cond.fieldLinkNest "BarrierFlow$Parser" (141 : Nat) "BarrierFlow" "WORDS" "[LBarrierFlow$Word;" "BarrierFlow") (List.mem_append_right _ (List.mem_of_getElem? (i := 525) (by decide +kernel))))⟩
  unfold zNsM
  simp only [List.forall_mem_cons]
  exact ⟨va_Nw.of rfl (hts (Jvm.Cond.methodLinkNest "BarrierFlow" (11 : Nat) ({ cls := "BarrierFlow$Input", name := "<init>", desc := "()V" } : Jvm.MethodName) "BarrierFlow") (List.mem_append_right _ (List.mem_of_getElem? (i := 37) (by decide +kernel)))), va_Nw.of rfl (hts (Jvm.Cond.methodLinkNest "BarrierFlow" (27 : Nat) ({ cls := "BarrierFlow$Output", name := "<init>", desc := "()V" } : Jvm.MethodName) "BarrierFlow") (List.mem_append_right _ (List.mem_of_getElem? (i := 88) (by decide +kernel)))), va_Nw.of rfl (hts (Jvm.Cond.methodLinkNest "BarrierFlow" (34 : Nat) ({ cls := "BarrierFlow$Setup", name := "<init>", desc := "()V" } : Jvm.MethodName) "BarrierFlow") (List.mem_append_right _ (List.mem_of_getElem? (i := 103) (by decide +kernel)))), va_Nw.of rfl (hts (Jvm.Cond.methodLinkNest "BarrierFlow$Setup" (44 : Nat) ({ cls := "BarrierFlow", name := "fillRow", desc := "([II)V" } : Jvm.MethodName) "BarrierFlow") (List.mem_append_right _ (List.mem_of_getElem? (i := 165) (by decide +kernel)))), va_Nw.of rfl (hts (Jvm.Cond.methodLinkNest "BarrierFlow$Setup" (74 : Nat) ({ cls := "BarrierFlow", name := "numberOf", desc := "(II)I" } : Jvm.MethodName) "BarrierFlow") (List.mem_append_right _ (List.mem_of_getElem? (i := 182) (by decide +kernel)))), va_Nw.of rfl (hts (Jvm.Cond.methodLinkNest "BarrierFlow$Flow" (36 : Nat) ({ cls := "BarrierFlow$Checkpoint", name := "<init>", desc := "()V" } : Jvm.MethodName) "BarrierFlow") (List.mem_append_right _ (List.mem_of_getElem? (i := 224) (by decide +kernel)))), va_Nw.of rfl (hts (Jvm.Cond.methodLinkNest "BarrierFlow$Flow" (106 : Nat) ({ cls := "BarrierFlow", name := "copyRow", desc := "([I[I)V" } : Jvm.MethodName) "BarrierFlow") (List.mem_append_right _ (List.mem_of_getElem? (i := 297) (by decide +kernel)))), va_Nw.of rfl (hts (Jvm.Cond.methodLinkNest "BarrierFlow$Flow" (283 : Nat) ({ cls := "BarrierFlow", name := "fillRow", desc := "([II)V" } : Jvm.MethodName) "BarrierFlow") (List.mem_append_right _ (List.mem_of_getElem? (i := 330) (by decide +kernel)))), va_Nw.of rfl (hts (Jvm.Cond.methodLinkNest "BarrierFlow$Lists" (31 : Nat) ({ cls := "BarrierFlow", name := "copyRow", desc := "([I[I)V" } : Jvm.MethodName) "BarrierFlow") (List.mem_append_right _ (List.mem_of_getElem? (i := 705) (by decide +kernel)))), va_Nw.of rfl (hts (Jvm.Cond.methodLinkNest "BarrierFlow$Checkpoint" (62 : Nat) ({ cls := "BarrierFlow", name := "copyRow", desc := "([I[I)V" } : Jvm.MethodName) "BarrierFlow") (List.mem_append_right _ (List.mem_of_getElem? (i := 710) (by decide +kernel)))), va_Nw.of rfl (hts (Jvm.Cond.methodLinkNest "BarrierFlow$Checkpoint" (55 : Nat) ({ cls := "BarrierFlow", name := "fillRow", desc := "([II)V" } : Jvm.MethodName) "BarrierFlow") (List.mem_append_right _ (List.mem_of_getElem? (i := 727) (by decide +kernel)))), va_Nw.of rfl (hts (Jvm.Cond.methodLinkNest "BarrierFlow$Flow" (190 : Nat) ({ cls := "BarrierFlow", name := "channel", desc := "(II)I" } : Jvm.MethodName) "BarrierFlow") (List.mem_append_right _ (List.mem_of_getElem? (i := 746) (by decide +kernel)))), va_Nw.of rfl (hts (Jvm.Cond.methodLinkNest "BarrierFlow$Flow" (200 : Nat) ({ cls := "BarrierFlow", name := "numberOf", desc := "(II)I" } : Jvm.MethodName) "BarrierFlow") (List.mem_append_right _ (List.mem_of_getElem? (i := 751) (by decide +kernel)))), va_Nw.of rfl (hts (Jvm.Cond.methodLinkNest "BarrierFlow$Flow" (206 : Nat) ({ cls := "BarrierFlow", name := "ownerOf", desc := "(II)I" } : Jvm.MethodName) "BarrierFlow") (List.mem_append_right _ (List.mem_of_getElem? (i := 756) (by decide +kernel)))), va_Nw.of rfl (hts (Jvm.Cond.methodLinkNest "BarrierFlow$Checkpoint" (85 : Nat) ({ cls := "BarrierFlow", name := "channel", desc := "(II)I" } : Jvm.MethodName) "BarrierFlow") (List.mem_append_right _ (List.mem_of_getElem? (i := 1170) (by decide +kernel)))), va_Nw.of rfl (hts (Jvm.Cond.methodLinkNest "BarrierFlow$Checkpoint" (101 : Nat) ({ cls := "BarrierFlow", name := "ownerOf", desc := "(II)I" } : Jvm.MethodName) "BarrierFlow") (List.mem_append_right _ (List.mem_of_getElem? (i := 1175) (by decide +kernel)))), fun q hq => (by cases hq)⟩
theorem zV_start (hts : ∀ w ∈ lw_tbl, w.before #[Value.ref b] s = true) : ∃ D Ca, zV D Ca s := by
  have hz : ∀ w ∈ zTb, w.before #[Value.ref b] s = true := fun w hw => hts w (List.mem_filter.mp hw).1
  have h : ∀ k : Nat, ∃ p : ClassId × (Nat → Nat), ∀ q : vw_C, vwCl[k]? = some q → u_Kn s q.1 q.2.1 q.2.2 p.1 p.2 := by
    intro k
    match k with
    | 0 =>
      obtain ⟨c, i, hk⟩ := u_known (C := RX0) (T := TX0) (N := 11) (n := 11) hz zin_0 (hts (Jvm.Cond.instantiable "BarrierFlow$Checkpoint" (11 : Nat)) (List.mem_append_right _ (List.mem_of_getElem? (i := 223) (by decide +kernel))))
      exact ⟨(c, i), fun q hq => by cases hq; exact hk⟩
    | 1 =>
      obtain ⟨c, i, hk⟩ := u_known (C := RX1) (T := TX1) (N := 20) (n := 20) hz zin_1 (hts (Jvm.Cond.instantiable "BarrierFlow$Flow" (20 : Nat)) (List.mem_append_right _ (List.mem_of_getElem? (i := 190) (by decide +kernel))))
      exact ⟨(c, i), fun q hq => by cases hq; exact hk⟩
    | 2 =>
      obtain ⟨c, i, hk⟩ := u_known (C := RX2) (T := TX2) (N := 2) (n := 2) hz zin_2 (hts (Jvm.Cond.instantiable "BarrierFlow$Input" (2 : Nat)) (List.mem_append_right _ (List.mem_of_getElem? (i := 36) (by decide +kernel))))
      exact ⟨(c, i), fun q hq => by cases hq; exact hk⟩
    | 3 =>
      obtain ⟨c, i, hk⟩ := u_known (C := RX3) (T := TX3) (N := 4) (n := 4) hz zin_3 (hts (Jvm.Cond.instantiable "BarrierFlow$Lists" (4 : Nat)) (List.mem_append_right _ (List.mem_of_getElem? (i := 196) (by decide +kernel))))
      exact ⟨(c, i), fun q hq => by cases hq; exact hk⟩
    | 4 =>
      obtain ⟨c, i, hk⟩ := u_known (C := RX4) (T := TX4) (N := 2) (n := 2) hz zin_4 (hts (Jvm.Cond.instantiable "BarrierFlow$Output" (2 : Nat)) (List.mem_append_right _ (List.mem_of_getElem? (i := 87) (by decide +kernel))))
      exact ⟨(c, i), fun q hq => by cases hq; exact hk⟩
    | 5 =>
      obtain ⟨c, i, hk⟩ := u_known (C := RX5) (T := TX5) (N := 8) (n := 8) hz zin_5 (hts (Jvm.Cond.instantiable "BarrierFlow$Parser" (8 : Nat)) (List.mem_append_right _ (List.mem_of_getElem? (i := 54) (by decide +kernel))))
      exact ⟨(c, i), fun q hq => by cases hq; exact hk⟩
    | 6 =>
      obtain ⟨c, i, hk⟩ := u_known (C := RX6) (T := TX6) (N := 3) (n := 3) hz zin_6 (hts (Jvm.Cond.instantiable "BarrierFlow$Past" (3 : Nat)) (List.mem_append_right _ (List.mem_of_getElem? (i := 430) (by decide +kernel))))
      exact ⟨(c, i), fun q hq => by cases hq; exact hk⟩
    | 7 =>
      obtain ⟨c, i, hk⟩ := u_known (C := RX7) (T := TX7) (N := 11) (n := 11) hz zin_7 (hts (Jvm.Cond.instantiable "BarrierFlow$Setup" (11 : Nat)) (List.mem_append_right _ (List.mem_of_getElem? (i := 102) (by decide +kernel))))
      exact ⟨(c, i), fun q hq => by cases hq; exact hk⟩
    | 8 =>
      obtain ⟨c, i, hk⟩ := u_known (C := RX9) (T := TX9) (N := 10) (n := 10) hz zin_8 (hts (Jvm.Cond.instantiable "BarrierFlow" (10 : Nat)) (List.mem_append_right _ (List.mem_of_getElem? (i := 28) (by decide +kernel))))
      exact ⟨(c, i), fun q hq => by cases hq; exact hk⟩
    | 9 =>
      obtain ⟨c, i, hk⟩ := u_known (C := RX10) (T := TX10) (N := 32) (n := 32) hz zin_9 (hts (Jvm.Cond.instantiable "BarrierFlowModel" (32 : Nat)) (List.mem_append_right _ (List.mem_of_getElem? (i := 1246) (by decide +kernel))))
      exact ⟨(c, i), fun q hq => by cases hq; exact hk⟩
    | k + 10 => exact ⟨(0, fun _ => 0), fun q hq => by cases hq⟩
  obtain ⟨D0, hD0⟩ := Classical.axiomOfChoice h
  obtain ⟨c1, k1, p1, a1, b1, d1⟩ := Cond.arrayClass_spec (hts (Jvm.Cond.arrayClass Jvm.ClassFile.FieldType.int) (List.mem_append_right _ (List.mem_of_getElem? (i := 156) (by decide +kernel))))
  obtain ⟨c2, k2, p2, a2, b2, d2⟩ := Cond.arrayClass_spec (hts (Jvm.Cond.arrayClass Jvm.ClassFile.FieldType.byte) (List.mem_append_right _ (List.mem_of_getElem? (i := 52) (by decide +kernel))))
  obtain ⟨c3, k3, p3, a3, b3, d3⟩ := Cond.arrayClass_spec (hts (Jvm.Cond.arrayClass Jvm.ClassFile.FieldType.long) (List.mem_append_right _ (List.mem_of_getElem? (i := 1361) (by decide +kernel))))
  obtain ⟨p4, c4, k4, f4, -, b4, d4, a4⟩ := Cond.arrayOver_spec (hts (Jvm.Cond.arrayOver (Jvm.ClassFile.FieldType.object "BarrierFlow$Flow")) (List.mem_append_right _ (List.mem_of_getElem? (i := 436) (by decide +kernel))))
  refine ⟨(fun k => (D0 k).1, fun k => (D0 k).2), fun t => if t = 1 then c1 else if t = 2 then c2 else if t = 3 then c3 else c4, fun k q hq => hD0 k q hq, fun k q hq => ?_⟩
  match k, hq with
  | 0, hq => cases hq; exact ⟨fun n z => ⟨fun k h => (by cases h), k1, b1, p1, d1⟩, a1⟩
  | 1, hq => cases hq; exact ⟨fun n z => ⟨fun k h => (by cases h), k2, b2, p2, d2⟩, a2⟩
  | 2, hq => cases hq; exact ⟨fun n z => ⟨fun k h => (by cases h), k3, b3, p3, d3⟩, a3⟩
  | 3, hq => cases hq; exact ⟨fun n z => ⟨fun k h => (by cases h), k4, b4, p4, d4⟩, k4, p4, b4, d4, f4, a4⟩
  | k + 4, hq => cases hq
end ZST
