/-! What the premises give of the start: constants, what throwing wants, classes and rows. -/
abbrev zEn0 (ev : zEv) (B : Nat) (U : State) : Prop := zEnv ev B U ∧ zThr B U ∧ va_AO "BarrierFlow$Flow" U
theorem zEn0_k (ev : zEv) (B : Nat) : zEk B (zEn0 ev B) := by
  intro U U2 hv hh h
  obtain ⟨h1, ⟨⟨h2, h3⟩, h4⟩, h7⟩ := h
  have hq : ∀ a : Nat, a < U.heap.size → ¬ zA B a → U2.heap[a]? = U.heap[a]? := fun a _ h9 => hh a (Nat.not_le.mp h9)
  have ha : U.vm.Alike U2.vm := by
    rcases hv with h1 | h1
    · rw [h1]; exact Vm.Alike.refl _
    · exact h1.alike
  refine ⟨zEnv_k ev B U U2 hv hh h1, ⟨⟨vx_Zq.moved ha (h2.kept hq), vx_Zq.moved ha (h3.kept hq)⟩, fun w hw => ?_⟩, va_AO.moved ha h7⟩
  have h9 := h4 w hw
  rcases hv with h1 | h1
  · exact va_Nw.same (zEo w hw) h1 h9
  · unfold zEbL at hw
    rcases List.mem_append.mp hw with hw | hw
    · obtain ⟨q, -, rfl⟩ := List.mem_map.mp hw
      exact va_Nw.warmD h1 h9
    · simp only [List.mem_cons, List.not_mem_nil, or_false] at hw
      rcases hw with rfl | rfl | rfl | rfl <;> exact va_Nw.warmC h1 h9
theorem zLS_k {b L : Nat} {xs : Nat → Int32} (B : Nat) : zEk B (fun U => zLS U B b L xs) := by
  intro U U2 hv hh h
  have ha : U.vm.Alike U2.vm := by
    rcases hv with h1 | h1
    · rw [h1]; exact Vm.Alike.refl _
    · exact h1.alike
  obtain ⟨⟨scr, h1, h2, h3, h4, h5⟩, hb, hB, hL⟩ := h
  have e := hh b (Nat.not_le.mp hB)
  exact ⟨⟨scr, e.trans h1, State.isArrayOf_alike ha h2, h3, h4, h5⟩, (Array.getElem?_eq_some_iff.mp (e.trans h1)).1, hB, hL⟩
abbrev zEn (ev : zEv) (dg : Nat × Nat) (b L : Nat) (xs : Nat → Int32) (B : Nat) (U : State) : Prop := zEn0 ev B U ∧ zSl U ∧ zDg dg B U ∧ zLS U B b L xs
theorem zEn_k (ev : zEv) (dg : Nat × Nat) (b L : Nat) (xs : Nat → Int32) (B : Nat) : zEk B (zEn ev dg b L xs B) := fun U U2 hv hh h =>
  ⟨zEn0_k ev B U U2 hv hh h.1, zSl_k B U U2 hv hh h.2.1, zDg_k dg B U U2 hv hh h.2.2.1, zLS_k B U U2 hv hh h.2.2.2⟩
abbrev zFl : List Cond := flatC (Jvm.Cond.and given_1 narrow_1)
def zTm (i : Nat) : Term := if i < 9 then .string "BarrierFlow$Word" ([70, 76, 79, 82, 85, 88, 91, 94, 97].getD i 0) else .string "BarrierFlowLaw" (zlIx.getD (i - 9) 0)
abbrev zSt (i : Nat) : Term := .static "BarrierFlow$Word" (zwNm.getD i "") "LBarrierFlow$Word;"
set_option maxRecDepth 100000 in
theorem zf_ex : ∀ i, i < zwNm.length → Cond.exactly (zSt i) "BarrierFlow$Word" ∈ zFl := by decide +kernel
set_option maxRecDepth 100000 in
theorem zf_fi : ∀ q, q ∈ zwF → ∀ i, i < zwNm.length → Cond.eq (.field (zSt i) q.1 q.2.1 q.2.2.1) (.int (q.2.2.2.getD i 0)) ∈ zFl := by decide +kernel
set_option maxRecDepth 100000 in
theorem zf_ne : ∀ i, i < zwNm.length → ∀ j, j < zwNm.length → i ≠ j → Cond.not (.eq (zSt i) (zSt j)) ∈ zFl ∨ Cond.not (.eq (zSt j) (zSt i)) ∈ zFl := by decide +kernel
set_option maxRecDepth 100000 in
theorem zf_tx : ∀ i, i < 9 → Cond.eq (.field (zSt i) "BarrierFlow$Word" "text" "Ljava/lang/String;") (zTm i) ∈ zFl := by decide +kernel
set_option maxRecDepth 100000 in
theorem zf_sx : ∀ i, i < 19 → Cond.exactly (zTm i) "java/lang/String" ∈ zFl ∧ Cond.eq (.field (zTm i) "java/lang/String" "coder" "B") (.int 0) ∈ zFl ∧ Cond.arrayOf (.field (zTm i) "java/lang/String" "value" "[B") .byte ∈ zFl ∧ Cond.eq (.length (.field (zTm i) "java/lang/String" "value" "[B")) (.int (Int32.ofNat (zsLen.getD i 0))) ∈ zFl := by decide +kernel

set_option maxRecDepth 100000 in
theorem zf_se0 : ∀ j, j < 6 → zFl[611 + j]? = some (Cond.eq (.elem (.field (zTm 0) "java/lang/String" "value" "[B") (.int (Int32.ofNat j))) (.int ((zsByt.getD 0 []).getD j 0))) := by decide +kernel
set_option maxRecDepth 100000 in
theorem zf_se1 : ∀ j, j < 7 → zFl[636 + j]? = some (Cond.eq (.elem (.field (zTm 1) "java/lang/String" "value" "[B") (.int (Int32.ofNat j))) (.int ((zsByt.getD 1 []).getD j 0))) := by decide +kernel
set_option maxRecDepth 100000 in
theorem zf_se2 : ∀ j, j < 4 → zFl[663 + j]? = some (Cond.eq (.elem (.field (zTm 2) "java/lang/String" "value" "[B") (.int (Int32.ofNat j))) (.int ((zsByt.getD 2 []).getD j 0))) := by decide +kernel
set_option maxRecDepth 100000 in
theorem zf_se3 : ∀ j, j < 3 → zFl[688 + j]? = some (Cond.eq (.elem (.field (zTm 3) "java/lang/String" "value" "[B") (.int (Int32.ofNat j))) (.int ((zsByt.getD 3 []).getD j 0))) := by decide +kernel
set_option maxRecDepth 100000 in
theorem zf_se4 : ∀ j, j < 9 → zFl[519 + j]? = some (Cond.eq (.elem (.field (zTm 4) "java/lang/String" "value" "[B") (.int (Int32.ofNat j))) (.int ((zsByt.getD 4 []).getD j 0))) := by decide +kernel
set_option maxRecDepth 100000 in
theorem zf_se5 : ∀ j, j < 5 → zFl[500 + j]? = some (Cond.eq (.elem (.field (zTm 5) "java/lang/String" "value" "[B") (.int (Int32.ofNat j))) (.int ((zsByt.getD 5 []).getD j 0))) := by decide +kernel
set_option maxRecDepth 100000 in
theorem zf_se6 : ∀ j, j < 4 → zFl[543 + j]? = some (Cond.eq (.elem (.field (zTm 6) "java/lang/String" "value" "[B") (.int (Int32.ofNat j))) (.int ((zsByt.getD 6 []).getD j 0))) := by decide +kernel
set_option maxRecDepth 100000 in
theorem zf_se7 : ∀ j, j < 5 → zFl[563 + j]? = some (Cond.eq (.elem (.field (zTm 7) "java/lang/String" "value" "[B") (.int (Int32.ofNat j))) (.int ((zsByt.getD 7 []).getD j 0))) := by decide +kernel
set_option maxRecDepth 100000 in
theorem zf_se8 : ∀ j, j < 8 → zFl[585 + j]? = some (Cond.eq (.elem (.field (zTm 8) "java/lang/String" "value" "[B") (.int (Int32.ofNat j))) (.int ((zsByt.getD 8 []).getD j 0))) := by decide +kernel
set_option maxRecDepth 100000 in
theorem zf_se9 : ∀ j, j < 7 → zFl[349 + j]? = some (Cond.eq (.elem (.field (zTm 9) "java/lang/String" "value" "[B") (.int (Int32.ofNat j))) (.int ((zsByt.getD 9 []).getD j 0))) := by decide +kernel
set_option maxRecDepth 100000 in
theorem zf_se10 : ∀ j, j < 9 → zFl[360 + j]? = some (Cond.eq (.elem (.field (zTm 10) "java/lang/String" "value" "[B") (.int (Int32.ofNat j))) (.int ((zsByt.getD 10 []).getD j 0))) := by decide +kernel
set_option maxRecDepth 100000 in
theorem zf_se11 : ∀ j, j < 6 → zFl[374 + j]? = some (Cond.eq (.elem (.field (zTm 11) "java/lang/String" "value" "[B") (.int (Int32.ofNat j))) (.int ((zsByt.getD 11 []).getD j 0))) := by decide +kernel
set_option maxRecDepth 100000 in
theorem zf_se12 : ∀ j, j < 5 → zFl[386 + j]? = some (Cond.eq (.elem (.field (zTm 12) "java/lang/String" "value" "[B") (.int (Int32.ofNat j))) (.int ((zsByt.getD 12 []).getD j 0))) := by decide +kernel
set_option maxRecDepth 100000 in
theorem zf_se13 : ∀ j, j < 10 → zFl[398 + j]? = some (Cond.eq (.elem (.field (zTm 13) "java/lang/String" "value" "[B") (.int (Int32.ofNat j))) (.int ((zsByt.getD 13 []).getD j 0))) := by decide +kernel
set_option maxRecDepth 100000 in
theorem zf_se14 : ∀ j, j < 7 → zFl[416 + j]? = some (Cond.eq (.elem (.field (zTm 14) "java/lang/String" "value" "[B") (.int (Int32.ofNat j))) (.int ((zsByt.getD 14 []).getD j 0))) := by decide +kernel
set_option maxRecDepth 100000 in
theorem zf_se15 : ∀ j, j < 6 → zFl[432 + j]? = some (Cond.eq (.elem (.field (zTm 15) "java/lang/String" "value" "[B") (.int (Int32.ofNat j))) (.int ((zsByt.getD 15 []).getD j 0))) := by decide +kernel
set_option maxRecDepth 100000 in
theorem zf_se16 : ∀ j, j < 7 → zFl[448 + j]? = some (Cond.eq (.elem (.field (zTm 16) "java/lang/String" "value" "[B") (.int (Int32.ofNat j))) (.int ((zsByt.getD 16 []).getD j 0))) := by decide +kernel
set_option maxRecDepth 100000 in
theorem zf_se17 : ∀ j, j < 9 → zFl[466 + j]? = some (Cond.eq (.elem (.field (zTm 17) "java/lang/String" "value" "[B") (.int (Int32.ofNat j))) (.int ((zsByt.getD 17 []).getD j 0))) := by decide +kernel
set_option maxRecDepth 100000 in
theorem zf_se18 : ∀ j, j < 0 → zFl[0 + j]? = some (Cond.eq (.elem (.field (zTm 18) "java/lang/String" "value" "[B") (.int (Int32.ofNat j))) (.int ((zsByt.getD 18 []).getD j 0))) := by decide +kernel
theorem zf_se : ∀ i, i < 19 → ∀ j, j < zsLen.getD i 0 → Cond.eq (.elem (.field (zTm i) "java/lang/String" "value" "[B") (.int (Int32.ofNat j))) (.int ((zsByt.getD i []).getD j 0)) ∈ zFl := by
  intro i hi j hj
  match i, hi with
  | 0, _ => exact List.mem_of_getElem? (zf_se0 j hj)
  | 1, _ => exact List.mem_of_getElem? (zf_se1 j hj)
  | 2, _ => exact List.mem_of_getElem? (zf_se2 j hj)
  | 3, _ => exact List.mem_of_getElem? (zf_se3 j hj)
  | 4, _ => exact List.mem_of_getElem? (zf_se4 j hj)
  | 5, _ => exact List.mem_of_getElem? (zf_se5 j hj)
  | 6, _ => exact List.mem_of_getElem? (zf_se6 j hj)
  | 7, _ => exact List.mem_of_getElem? (zf_se7 j hj)
  | 8, _ => exact List.mem_of_getElem? (zf_se8 j hj)
  | 9, _ => exact List.mem_of_getElem? (zf_se9 j hj)
  | 10, _ => exact List.mem_of_getElem? (zf_se10 j hj)
  | 11, _ => exact List.mem_of_getElem? (zf_se11 j hj)
  | 12, _ => exact List.mem_of_getElem? (zf_se12 j hj)
  | 13, _ => exact List.mem_of_getElem? (zf_se13 j hj)
  | 14, _ => exact List.mem_of_getElem? (zf_se14 j hj)
  | 15, _ => exact List.mem_of_getElem? (zf_se15 j hj)
  | 16, _ => exact List.mem_of_getElem? (zf_se16 j hj)
  | 17, _ => exact List.mem_of_getElem? (zf_se17 j hj)
  | 18, _ => exact List.mem_of_getElem? (zf_se18 j hj)
  | i + 19, hi => exact absurd hi (by omega)
set_option maxRecDepth 100000 in
theorem zf_sn0 : ∀ j, j < 19 → 0 ≠ j → zFl[([0, 658, 682, 706, 628, 627, 629, 630, 631, 617, 618, 619, 620, 621, 622, 623, 624, 625, 626] : List Nat).getD j 0]? = some (Cond.not (Cond.eq (zTm 0) (zTm j))) ∨ zFl[([0, 658, 682, 706, 628, 627, 629, 630, 631, 617, 618, 619, 620, 621, 622, 623, 624, 625, 626] : List Nat).getD j 0]? = some (Cond.not (Cond.eq (zTm j) (zTm 0))) := by decide +kernel
set_option maxRecDepth 100000 in
theorem zf_sn1 : ∀ j, j < 19 → 1 ≠ j → zFl[([658, 0, 683, 707, 654, 653, 655, 656, 657, 643, 644, 645, 646, 647, 648, 649, 650, 651, 652] : List Nat).getD j 0]? = some (Cond.not (Cond.eq (zTm 1) (zTm j))) ∨ zFl[([658, 0, 683, 707, 654, 653, 655, 656, 657, 643, 644, 645, 646, 647, 648, 649, 650, 651, 652] : List Nat).getD j 0]? = some (Cond.not (Cond.eq (zTm j) (zTm 1))) := by decide +kernel
set_option maxRecDepth 100000 in
theorem zf_sn2 : ∀ j, j < 19 → 2 ≠ j → zFl[([682, 683, 0, 708, 678, 677, 679, 680, 681, 667, 668, 669, 670, 671, 672, 673, 674, 675, 676] : List Nat).getD j 0]? = some (Cond.not (Cond.eq (zTm 2) (zTm j))) ∨ zFl[([682, 683, 0, 708, 678, 677, 679, 680, 681, 667, 668, 669, 670, 671, 672, 673, 674, 675, 676] : List Nat).getD j 0]? = some (Cond.not (Cond.eq (zTm j) (zTm 2))) := by decide +kernel
set_option maxRecDepth 100000 in
theorem zf_sn3 : ∀ j, j < 19 → 3 ≠ j → zFl[([706, 707, 708, 0, 702, 701, 703, 704, 705, 691, 692, 693, 694, 695, 696, 697, 698, 699, 700] : List Nat).getD j 0]? = some (Cond.not (Cond.eq (zTm 3) (zTm j))) ∨ zFl[([706, 707, 708, 0, 702, 701, 703, 704, 705, 691, 692, 693, 694, 695, 696, 697, 698, 699, 700] : List Nat).getD j 0]? = some (Cond.not (Cond.eq (zTm j) (zTm 3))) := by decide +kernel
set_option maxRecDepth 100000 in
theorem zf_sn4 : ∀ j, j < 19 → 4 ≠ j → zFl[([628, 654, 678, 702, 0, 538, 558, 579, 604, 528, 529, 530, 531, 532, 533, 534, 535, 536, 537] : List Nat).getD j 0]? = some (Cond.not (Cond.eq (zTm 4) (zTm j))) ∨ zFl[([628, 654, 678, 702, 0, 538, 558, 579, 604, 528, 529, 530, 531, 532, 533, 534, 535, 536, 537] : List Nat).getD j 0]? = some (Cond.not (Cond.eq (zTm j) (zTm 4))) := by decide +kernel
set_option maxRecDepth 100000 in
theorem zf_sn5 : ∀ j, j < 19 → 5 ≠ j → zFl[([627, 653, 677, 701, 538, 0, 557, 578, 603, 505, 506, 507, 508, 509, 510, 511, 512, 513, 514] : List Nat).getD j 0]? = some (Cond.not (Cond.eq (zTm 5) (zTm j))) ∨ zFl[([627, 653, 677, 701, 538, 0, 557, 578, 603, 505, 506, 507, 508, 509, 510, 511, 512, 513, 514] : List Nat).getD j 0]? = some (Cond.not (Cond.eq (zTm j) (zTm 5))) := by decide +kernel
set_option maxRecDepth 100000 in
theorem zf_sn6 : ∀ j, j < 19 → 6 ≠ j → zFl[([629, 655, 679, 703, 558, 557, 0, 580, 605, 547, 548, 549, 550, 551, 552, 553, 554, 555, 556] : List Nat).getD j 0]? = some (Cond.not (Cond.eq (zTm 6) (zTm j))) ∨ zFl[([629, 655, 679, 703, 558, 557, 0, 580, 605, 547, 548, 549, 550, 551, 552, 553, 554, 555, 556] : List Nat).getD j 0]? = some (Cond.not (Cond.eq (zTm j) (zTm 6))) := by decide +kernel
set_option maxRecDepth 100000 in
theorem zf_sn7 : ∀ j, j < 19 → 7 ≠ j → zFl[([630, 656, 680, 704, 579, 578, 580, 0, 606, 568, 569, 570, 571, 572, 573, 574, 575, 576, 577] : List Nat).getD j 0]? = some (Cond.not (Cond.eq (zTm 7) (zTm j))) ∨ zFl[([630, 656, 680, 704, 579, 578, 580, 0, 606, 568, 569, 570, 571, 572, 573, 574, 575, 576, 577] : List Nat).getD j 0]? = some (Cond.not (Cond.eq (zTm j) (zTm 7))) := by decide +kernel
set_option maxRecDepth 100000 in
theorem zf_sn8 : ∀ j, j < 19 → 8 ≠ j → zFl[([631, 657, 681, 705, 604, 603, 605, 606, 0, 593, 594, 595, 596, 597, 598, 599, 600, 601, 602] : List Nat).getD j 0]? = some (Cond.not (Cond.eq (zTm 8) (zTm j))) ∨ zFl[([631, 657, 681, 705, 604, 603, 605, 606, 0, 593, 594, 595, 596, 597, 598, 599, 600, 601, 602] : List Nat).getD j 0]? = some (Cond.not (Cond.eq (zTm j) (zTm 8))) := by decide +kernel
set_option maxRecDepth 100000 in
theorem zf_sn9 : ∀ j, j < 19 → 9 ≠ j → zFl[([617, 643, 667, 691, 528, 505, 547, 568, 593, 0, 369, 380, 391, 408, 423, 438, 455, 475, 487] : List Nat).getD j 0]? = some (Cond.not (Cond.eq (zTm 9) (zTm j))) ∨ zFl[([617, 643, 667, 691, 528, 505, 547, 568, 593, 0, 369, 380, 391, 408, 423, 438, 455, 475, 487] : List Nat).getD j 0]? = some (Cond.not (Cond.eq (zTm j) (zTm 9))) := by decide +kernel
set_option maxRecDepth 100000 in
theorem zf_sn10 : ∀ j, j < 19 → 10 ≠ j → zFl[([618, 644, 668, 692, 529, 506, 548, 569, 594, 369, 0, 381, 392, 409, 424, 439, 456, 476, 488] : List Nat).getD j 0]? = some (Cond.not (Cond.eq (zTm 10) (zTm j))) ∨ zFl[([618, 644, 668, 692, 529, 506, 548, 569, 594, 369, 0, 381, 392, 409, 424, 439, 456, 476, 488] : List Nat).getD j 0]? = some (Cond.not (Cond.eq (zTm j) (zTm 10))) := by decide +kernel
set_option maxRecDepth 100000 in
theorem zf_sn11 : ∀ j, j < 19 → 11 ≠ j → zFl[([619, 645, 669, 693, 530, 507, 549, 570, 595, 380, 381, 0, 393, 410, 425, 440, 457, 477, 489] : List Nat).getD j 0]? = some (Cond.not (Cond.eq (zTm 11) (zTm j))) ∨ zFl[([619, 645, 669, 693, 530, 507, 549, 570, 595, 380, 381, 0, 393, 410, 425, 440, 457, 477, 489] : List Nat).getD j 0]? = some (Cond.not (Cond.eq (zTm j) (zTm 11))) := by decide +kernel
set_option maxRecDepth 100000 in
theorem zf_sn12 : ∀ j, j < 19 → 12 ≠ j → zFl[([620, 646, 670, 694, 531, 508, 550, 571, 596, 391, 392, 393, 0, 411, 426, 441, 458, 478, 490] : List Nat).getD j 0]? = some (Cond.not (Cond.eq (zTm 12) (zTm j))) ∨ zFl[([620, 646, 670, 694, 531, 508, 550, 571, 596, 391, 392, 393, 0, 411, 426, 441, 458, 478, 490] : List Nat).getD j 0]? = some (Cond.not (Cond.eq (zTm j) (zTm 12))) := by decide +kernel
set_option maxRecDepth 100000 in
theorem zf_sn13 : ∀ j, j < 19 → 13 ≠ j → zFl[([621, 647, 671, 695, 532, 509, 551, 572, 597, 408, 409, 410, 411, 0, 427, 442, 459, 479, 491] : List Nat).getD j 0]? = some (Cond.not (Cond.eq (zTm 13) (zTm j))) ∨ zFl[([621, 647, 671, 695, 532, 509, 551, 572, 597, 408, 409, 410, 411, 0, 427, 442, 459, 479, 491] : List Nat).getD j 0]? = some (Cond.not (Cond.eq (zTm j) (zTm 13))) := by decide +kernel
set_option maxRecDepth 100000 in
theorem zf_sn14 : ∀ j, j < 19 → 14 ≠ j → zFl[([622, 648, 672, 696, 533, 510, 552, 573, 598, 423, 424, 425, 426, 427, 0, 443, 460, 480, 492] : List Nat).getD j 0]? = some (Cond.not (Cond.eq (zTm 14) (zTm j))) ∨ zFl[([622, 648, 672, 696, 533, 510, 552, 573, 598, 423, 424, 425, 426, 427, 0, 443, 460, 480, 492] : List Nat).getD j 0]? = some (Cond.not (Cond.eq (zTm j) (zTm 14))) := by decide +kernel
set_option maxRecDepth 100000 in
theorem zf_sn15 : ∀ j, j < 19 → 15 ≠ j → zFl[([623, 649, 673, 697, 534, 511, 553, 574, 599, 438, 439, 440, 441, 442, 443, 0, 461, 481, 493] : List Nat).getD j 0]? = some (Cond.not (Cond.eq (zTm 15) (zTm j))) ∨ zFl[([623, 649, 673, 697, 534, 511, 553, 574, 599, 438, 439, 440, 441, 442, 443, 0, 461, 481, 493] : List Nat).getD j 0]? = some (Cond.not (Cond.eq (zTm j) (zTm 15))) := by decide +kernel
set_option maxRecDepth 100000 in
theorem zf_sn16 : ∀ j, j < 19 → 16 ≠ j → zFl[([624, 650, 674, 698, 535, 512, 554, 575, 600, 455, 456, 457, 458, 459, 460, 461, 0, 482, 494] : List Nat).getD j 0]? = some (Cond.not (Cond.eq (zTm 16) (zTm j))) ∨ zFl[([624, 650, 674, 698, 535, 512, 554, 575, 600, 455, 456, 457, 458, 459, 460, 461, 0, 482, 494] : List Nat).getD j 0]? = some (Cond.not (Cond.eq (zTm j) (zTm 16))) := by decide +kernel
set_option maxRecDepth 100000 in
theorem zf_sn17 : ∀ j, j < 19 → 17 ≠ j → zFl[([625, 651, 675, 699, 536, 513, 555, 576, 601, 475, 476, 477, 478, 479, 480, 481, 482, 0, 495] : List Nat).getD j 0]? = some (Cond.not (Cond.eq (zTm 17) (zTm j))) ∨ zFl[([625, 651, 675, 699, 536, 513, 555, 576, 601, 475, 476, 477, 478, 479, 480, 481, 482, 0, 495] : List Nat).getD j 0]? = some (Cond.not (Cond.eq (zTm j) (zTm 17))) := by decide +kernel
set_option maxRecDepth 100000 in
theorem zf_sn18 : ∀ j, j < 19 → 18 ≠ j → zFl[([626, 652, 676, 700, 537, 514, 556, 577, 602, 487, 488, 489, 490, 491, 492, 493, 494, 495, 0] : List Nat).getD j 0]? = some (Cond.not (Cond.eq (zTm 18) (zTm j))) ∨ zFl[([626, 652, 676, 700, 537, 514, 556, 577, 602, 487, 488, 489, 490, 491, 492, 493, 494, 495, 0] : List Nat).getD j 0]? = some (Cond.not (Cond.eq (zTm j) (zTm 18))) := by decide +kernel
theorem zf_sn : ∀ i, i < 19 → ∀ j, j < 19 → i ≠ j → Cond.not (Cond.eq (zTm i) (zTm j)) ∈ zFl ∨ Cond.not (Cond.eq (zTm j) (zTm i)) ∈ zFl := by
  intro i hi j hj hij
  match i, hi, hij with
  | 0, _, hij => exact (zf_sn0 j hj hij).imp List.mem_of_getElem? List.mem_of_getElem?
  | 1, _, hij => exact (zf_sn1 j hj hij).imp List.mem_of_getElem? List.mem_of_getElem?
  | 2, _, hij => exact (zf_sn2 j hj hij).imp List.mem_of_getElem? List.mem_of_getElem?
  | 3, _, hij => exact (zf_sn3 j hj hij).imp List.mem_of_getElem? List.mem_of_getElem?
  | 4, _, hij => exact (zf_sn4 j hj hij).imp List.mem_of_getElem? List.mem_of_getElem?
  | 5, _, hij => exact (zf_sn5 j hj hij).imp List.mem_of_getElem? List.mem_of_getElem?
  | 6, _, hij => exact (zf_sn6 j hj hij).imp List.mem_of_getElem? List.mem_of_getElem?
  | 7, _, hij => exact (zf_sn7 j hj hij).imp List.mem_of_getElem? List.mem_of_getElem?
  | 8, _, hij => exact (zf_sn8 j hj hij).imp List.mem_of_getElem? List.mem_of_getElem?
  | 9, _, hij => exact (zf_sn9 j hj hij).imp List.mem_of_getElem? List.mem_of_getElem?
  | 10, _, hij => exact (zf_sn10 j hj hij).imp List.mem_of_getElem? List.mem_of_getElem?
  | 11, _, hij => exact (zf_sn11 j hj hij).imp List.mem_of_getElem? List.mem_of_getElem?
  | 12, _, hij => exact (zf_sn12 j hj hij).imp List.mem_of_getElem? List.mem_of_getElem?
  | 13, _, hij => exact (zf_sn13 j hj hij).imp List.mem_of_getElem? List.mem_of_getElem?
  | 14, _, hij => exact (zf_sn14 j hj hij).imp List.mem_of_getElem? List.mem_of_getElem?
  | 15, _, hij => exact (zf_sn15 j hj hij).imp List.mem_of_getElem? List.mem_of_getElem?
  | 16, _, hij => exact (zf_sn16 j hj hij).imp List.mem_of_getElem? List.mem_of_getElem?
  | 17, _, hij => exact (zf_sn17 j hj hij).imp List.mem_of_getElem? List.mem_of_getElem?
  | 18, _, hij => exact (zf_sn18 j hj hij).imp List.mem_of_getElem? List.mem_of_getElem?
  | i + 19, hi, _ => exact absurd hi (by omega)
set_option maxRecDepth 100000 in
theorem zf_w : Cond.arrayOf (.static "BarrierFlow" "WORDS" "[LBarrierFlow$Word;") (.object "BarrierFlow$Word") ∈ zFl ∧ Cond.eq (.length (.static "BarrierFlow" "WORDS" "[LBarrierFlow$Word;")) (.int (Int32.ofNat 9)) ∈ zFl ∧ Cond.eq (.static "java/lang/String" "COMPACT_STRINGS" "Z") (.int 1) ∈ zFl ∧ Cond.isRef (.static "jdk/internal/util/Preconditions" "SIOOBE_FORMATTER" "Ljava/util/function/BiFunction;") ∈ zFl ∧ Cond.isRef (.static Bundle.tN "UNASSIGNED_STACK" Bundle.steD) ∈ zFl ∧ Cond.isRef (.static Bundle.tN "SUPPRESSED_SENTINEL" Bundle.listD) ∈ zFl := by decide +kernel
set_option maxRecDepth 100000 in
theorem zf_we : ∀ j, j < 9 → Cond.eq (.elem (.static "BarrierFlow" "WORDS" "[LBarrierFlow$Word;") (.int (Int32.ofNat j))) (zSt j) ∈ zFl := by decide +kernel
section ZST
variable {s : State} {b : Nat}
theorem zl_st (hts : ∀ w ∈ lw_tbl, w.before #[Value.ref b] s = true) : ∀ i, i < zwNm.length → (Cond.laysStatic "BarrierFlow$Word" (zwNm.getD i "") "LBarrierFlow$Word;").before #[Value.ref b] s = true := by
  intro i hi
  match i, hi with
  | 0, _ => exact (hts (Jvm.Cond.laysStatic "BarrierFlow$Word" "SOURCE" "LBarrierFlow$Word;") (List.mem_append_right _ (List.mem_of_getElem? (i := 890) (by decide +kernel))))
  | 1, _ => exact (hts (Jvm.Cond.laysStatic "BarrierFlow$Word" "RECORDS" "LBarrierFlow$Word;") (List.mem_append_right _ (List.mem_of_getElem? (i := 917) (by decide +kernel))))
  | 2, _ => exact (hts (Jvm.Cond.laysStatic "BarrierFlow$Word" "SEED" "LBarrierFlow$Word;") (List.mem_append_right _ (List.mem_of_getElem? (i := 927) (by decide +kernel))))
  | 3, _ => exact (hts (Jvm.Cond.laysStatic "BarrierFlow$Word" "LAG" "LBarrierFlow$Word;") (List.mem_append_right _ (List.mem_of_getElem? (i := 929) (by decide +kernel))))
  | 4, _ => exact (hts (Jvm.Cond.laysStatic "BarrierFlow$Word" "INSTANCES" "LBarrierFlow$Word;") (List.mem_append_right _ (List.mem_of_getElem? (i := 287) (by decide +kernel))))
  | 5, _ => exact (hts (Jvm.Cond.laysStatic "BarrierFlow$Word" "SINKS" "LBarrierFlow$Word;") (List.mem_append_right _ (List.mem_of_getElem? (i := 171) (by decide +kernel))))
  | 6, _ => exact (hts (Jvm.Cond.laysStatic "BarrierFlow$Word" "ROOM" "LBarrierFlow$Word;") (List.mem_append_right _ (List.mem_of_getElem? (i := 290) (by decide +kernel))))
  | 7, _ => exact (hts (Jvm.Cond.laysStatic "BarrierFlow$Word" "EVERY" "LBarrierFlow$Word;") (List.mem_append_right _ (List.mem_of_getElem? (i := 292) (by decide +kernel))))
  | 8, _ => exact (hts (Jvm.Cond.laysStatic "BarrierFlow$Word" "OVERTAKE" "LBarrierFlow$Word;") (List.mem_append_right _ (List.mem_of_getElem? (i := 294) (by decide +kernel))))
  | i + 9, hi => exact absurd hi (show ¬ i + 9 < 9 by omega)
theorem zEnv_start (hts : ∀ w ∈ lw_tbl, w.before #[Value.ref b] s = true) (hgv : (Jvm.Cond.and given_1 narrow_1).before #[Value.ref b] s = true) : ∃ ev, zEnv ev s.heap.size s := by
  have hs : ∀ w, w ∈ zFl → w.before #[Value.ref b] s = true := flat_of_before _ hgv
  have hA : ∀ a : Nat, a < s.heap.size → ¬ zA s.heap.size a := fun a h1 h2 => absurd h2 (Nat.not_le.mpr h1)
  obtain ⟨ad, hEn, had⟩ := va_Enof2 (E := "BarrierFlow$Word") (d := "LBarrierFlow$Word;") (nm := zwNm) (F := zwF) (A := zA s.heap.size) (zl_st hts) (hts (Jvm.Cond.initialized "BarrierFlow$Word") (List.mem_append_right _ (List.mem_of_getElem? (i := 7) (by decide +kernel)))) (fun i hi => hs _ (zf_ex i hi)) (fun q hq i hi => hs _ (zf_fi q hq i hi)) (fun i j hi hj hij => (zf_ne i hi j hj hij).imp (hs _) (hs _)) hA
  obtain ⟨adK, adV, hS, hK⟩ := vk_Sof (args := #[Value.ref b]) (s := s) (N := 19) (tm := zTm) (len := zsLen) (byt := zsByt) (A := zA s.heap.size) (by decide) (fun i hi => hs _ (zf_sx i hi).1) (fun i hi => hs _ (zf_sx i hi).2.1) (fun i hi => hs _ (zf_sx i hi).2.2.1) (fun i hi => hs _ (zf_sx i hi).2.2.2) (fun i hi j hj => hs _ (zf_se i hi j hj)) (fun i j hi hj hij => (zf_sn i hi j hj hij).imp (hs _) (hs _)) hA
  have hOF : va_Ef 9 "BarrierFlow$Word" "text" "Ljava/lang/String;" (fun i => .ref (adK i)) ad (zA s.heap.size) s s.heap := va_Efof (E := "BarrierFlow$Word") (d0 := "LBarrierFlow$Word;") (nm := zwNm) (tm := zTm) (fun i hi => had i hi) (fun i hi => hs _ (zf_tx i hi)) (fun i hi => hK i (by omega)) hA
  obtain ⟨t, ht, hT⟩ := va_Tof (args := #[Value.ref b]) (s := s) (tm := .static "BarrierFlow" "WORDS" "[LBarrierFlow$Word;") (ty := .object "BarrierFlow$Word") (N := 9) (f := fun j => .ref (ad j)) (A := zA s.heap.size) (by decide) (hs _ zf_w.1) (va_eqt (hs _ zf_w.2.1)) (fun j hj => va_eqv (hs _ (zf_we j hj)) (had j hj)) hA
  have hW := va_Zref (hts (Jvm.Cond.laysStatic "BarrierFlow" "WORDS" "[LBarrierFlow$Word;") (List.mem_append_right _ (List.mem_of_getElem? (i := 882) (by decide +kernel)))) (hts (Jvm.Cond.initialized "BarrierFlow") (List.mem_append_right _ (List.mem_of_getElem? (i := 1) (by decide +kernel)))) ht hA
  have hC := va_Zof (v := .int 1) (hts (Jvm.Cond.laysStatic "java/lang/String" "COMPACT_STRINGS" "Z") (List.mem_append_right _ (List.mem_of_getElem? (i := 797) (by decide +kernel)))) (hts (Jvm.Cond.initialized "java/lang/String") (List.mem_append_right _ (List.mem_of_getElem? (i := 16) (by decide +kernel)))) (va_eqt (hs _ zf_w.2.2.1)) hA
  have hR : ∀ i, i < 10 → vk_R "BarrierFlowLaw" (zlIx.getD i 0) (zlTx.getD i "") (adK (9 + i)) s := fun i hi => by
    have hk := hK (9 + i) (by omega)
    match i, hi with
    | 0, _ => exact vk_R.of (hts (Jvm.Cond.stringRef "BarrierFlowLaw" (54 : Nat) "source ") (List.mem_append_right _ (List.mem_of_getElem? (i := 982) (by decide +kernel)))) hk
    | 1, _ => exact vk_R.of (hts (Jvm.Cond.stringRef "BarrierFlowLaw" (63 : Nat) " records ") (List.mem_append_right _ (List.mem_of_getElem? (i := 1093) (by decide +kernel)))) hk
    | 2, _ => exact vk_R.of (hts (Jvm.Cond.stringRef "BarrierFlowLaw" (68 : Nat) " seed ") (List.mem_append_right _ (List.mem_of_getElem? (i := 1119) (by decide +kernel)))) hk
    | 3, _ => exact vk_R.of (hts (Jvm.Cond.stringRef "BarrierFlowLaw" (70 : Nat) " lag ") (List.mem_append_right _ (List.mem_of_getElem? (i := 1120) (by decide +kernel)))) hk
    | 4, _ => exact vk_R.of (hts (Jvm.Cond.stringRef "BarrierFlowLaw" (72 : Nat) "instances ") (List.mem_append_right _ (List.mem_of_getElem? (i := 1121) (by decide +kernel)))) hk
    | 5, _ => exact vk_R.of (hts (Jvm.Cond.stringRef "BarrierFlowLaw" (74 : Nat) ";sinks ") (List.mem_append_right _ (List.mem_of_getElem? (i := 1122) (by decide +kernel)))) hk
    | 6, _ => exact vk_R.of (hts (Jvm.Cond.stringRef "BarrierFlowLaw" (76 : Nat) ";room ") (List.mem_append_right _ (List.mem_of_getElem? (i := 1123) (by decide +kernel)))) hk
    | 7, _ => exact vk_R.of (hts (Jvm.Cond.stringRef "BarrierFlowLaw" (78 : Nat) ";every ") (List.mem_append_right _ (List.mem_of_getElem? (i := 1124) (by decide +kernel)))) hk
    | 8, _ => exact vk_R.of (hts (Jvm.Cond.stringRef "BarrierFlowLaw" (80 : Nat) "overtake;") (List.mem_append_right _ (List.mem_of_getElem? (i := 1125) (by decide +kernel)))) hk
    | 9, _ => exact vk_R.of (hts (Jvm.Cond.stringRef "BarrierFlowLaw" (82 : Nat) "") (List.mem_append_right _ (List.mem_of_getElem? (i := 1126) (by decide +kernel)))) hk
    | i + 10, hi => exact absurd hi (by omega)
  rcases va_Zqof (hts (Jvm.Cond.laysStatic "jdk/internal/util/Preconditions" "SIOOBE_FORMATTER" "Ljava/util/function/BiFunction;") (List.mem_append_right _ (List.mem_of_getElem? (i := 813) (by decide +kernel)))) (hts (Jvm.Cond.initialized "jdk/internal/util/Preconditions") (List.mem_append_right _ (List.mem_of_getElem? (i := 20) (by decide +kernel)))) (hs _ zf_w.2.2.2.1) hA with hF | ⟨f, hF⟩
  · exact ⟨(ad, adK, adV, t, none), hEn, hW, hT, hOF, hS, hC, hF, hR⟩
  · exact ⟨(ad, adK, adV, t, some f), hEn, hW, hT, hOF, hS, hC, hF, hR⟩
theorem zThr_start (hts : ∀ w ∈ lw_tbl, w.before #[Value.ref b] s = true) (hgv : (Jvm.Cond.and given_1 narrow_1).before #[Value.ref b] s = true) : zThr s.heap.size s := by
  have hs : ∀ w, w ∈ zFl → w.before #[Value.ref b] s = true := flat_of_before _ hgv
  have hA : ∀ a : Nat, a < s.heap.size → ¬ zA s.heap.size a := fun a h1 h2 => absurd h2 (Nat.not_le.mpr h1)
  refine ⟨⟨vx_Zqof (hts (Jvm.Cond.laysStatic "java/lang/Throwable" "UNASSIGNED_STACK" "[Ljava/lang/StackTraceElement;") (List.mem_append_right _ (List.mem_of_getElem? (i := 513) (by decide +kernel)))) (hts (Jvm.Cond.initialized "java/lang/Throwable") (List.mem_append_right _ (List.mem_of_getElem? (i := 24) (by decide +kernel)))) (hs _ zf_w.2.2.2.2.1) hA, vx_Zqof (hts (Jvm.Cond.laysStatic "java/lang/Throwable" "SUPPRESSED_SENTINEL" "Ljava/util/List;") (List.mem_append_right _ (List.mem_of_getElem? (i := 515) (by decide +kernel)))) (hts (Jvm.Cond.initialized "java/lang/Throwable") (List.mem_append_right _ (List.mem_of_getElem? (i := 24) (by decide +kernel)))) (hs _ zf_w.2.2.2.2.2) hA⟩, fun w hw => va_Nw.of (A := #[Value.ref b]) (zEo w hw) ?_⟩
  unfold zEbL at hw
  rcases List.mem_append.mp hw with hw | hw
  · obtain ⟨q, hq, rfl⟩ := List.mem_map.mp hw
    simp only [zEdL, List.mem_cons, List.not_mem_nil, or_false] at hq
    rcases hq with rfl | rfl | rfl
    · exact (hts (Jvm.Cond.declares ({ cls := "java/lang/RuntimeException", name := "<init>", desc := "()V" } : Jvm.MethodName)) (List.mem_append_right _ (List.mem_of_getElem? (i := 489) (by decide +kernel))))
    · exact (hts (Jvm.Cond.declares ({ cls := "java/lang/Exception", name := "<init>", desc := "()V" } : Jvm.MethodName)) (List.mem_append_right _ (List.mem_of_getElem? (i := 491) (by decide +kernel))))
    · exact (hts (Jvm.Cond.declares ({ cls := "java/lang/Throwable", name := "<init>", desc := "()V" } : Jvm.MethodName)) (List.mem_append_right _ (List.mem_of_getElem? (i := 493) (by decide +kernel))))
  · simp only [List.mem_cons, List.not_mem_nil, or_false] at hw
    rcases hw with rfl | rfl | rfl | rfl
    · exact (hts (Jvm.Cond.castable "java/lang/IndexOutOfBoundsException" "java/lang/IndexOutOfBoundsException") (List.mem_append_right _ (List.mem_of_getElem? (i := 1227) (by decide +kernel))))
    · exact (hts (Jvm.Cond.castable "java/lang/IllegalArgumentException" "java/lang/IllegalArgumentException") (List.mem_append_right _ (List.mem_of_getElem? (i := 488) (by decide +kernel))))
    · exact (hts (Jvm.Cond.castable "java/lang/IllegalStateException" "java/lang/IllegalStateException") (List.mem_append_right _ (List.mem_of_getElem? (i := 726) (by decide +kernel))))
    · exact (hts (Jvm.Cond.castable "java/util/NoSuchElementException" "java/util/NoSuchElementException") (List.mem_append_right _ (List.mem_of_getElem? (i := 1264) (by decide +kernel))))
theorem zSl_start (hts : ∀ w ∈ lw_tbl, w.before #[Value.ref b] s = true) : zSl s := by
  refine ⟨fun y hy => ?_, va_Nw.of (A := #[Value.ref b]) rfl (hts (Jvm.Cond.castable "[B" "java/lang/Cloneable") (List.mem_append_right _ (List.mem_of_getElem? (i := 1021) (by decide +kernel))))⟩
  simp only [sbP, List.mem_cons, List.not_mem_nil, or_false] at hy
  rcases hy with rfl | rfl | rfl | rfl
  · exact va_Nw.of (A := #[Value.ref b]) rfl (sb_sel rfl (hts (Jvm.Cond.privateMethod ({ cls := "java/lang/AbstractStringBuilder", name := "ensureCapacityInternal", desc := "(I)V" } : Jvm.MethodName)) (List.mem_append_right _ (List.mem_of_getElem? (i := 995) (by decide +kernel)))) (hts (Jvm.Cond.instanceMethod ({ cls := "java/lang/AbstractStringBuilder", name := "ensureCapacityInternal", desc := "(I)V" } : Jvm.MethodName)) (List.mem_append_right _ (List.mem_of_getElem? (i := 996) (by decide +kernel)))) (hts (Jvm.Cond.selects "java/lang/StringBuilder" ({ cls := "java/lang/AbstractStringBuilder", name := "isLatin1", desc := "()Z" } : Jvm.MethodName) ({ cls := "java/lang/AbstractStringBuilder", name := "isLatin1", desc := "()Z" } : Jvm.MethodName)) (List.mem_append_right _ (List.mem_of_getElem? (i := 1028) (by decide +kernel)))))
  · exact va_Nw.of (A := #[Value.ref b]) rfl (sb_sel rfl (hts (Jvm.Cond.privateMethod ({ cls := "java/lang/AbstractStringBuilder", name := "newCapacity", desc := "(I)I" } : Jvm.MethodName)) (List.mem_append_right _ (List.mem_of_getElem? (i := 999) (by decide +kernel)))) (hts (Jvm.Cond.instanceMethod ({ cls := "java/lang/AbstractStringBuilder", name := "newCapacity", desc := "(I)I" } : Jvm.MethodName)) (List.mem_append_right _ (List.mem_of_getElem? (i := 1000) (by decide +kernel)))) (hts (Jvm.Cond.selects "java/lang/StringBuilder" ({ cls := "java/lang/AbstractStringBuilder", name := "isLatin1", desc := "()Z" } : Jvm.MethodName) ({ cls := "java/lang/AbstractStringBuilder", name := "isLatin1", desc := "()Z" } : Jvm.MethodName)) (List.mem_append_right _ (List.mem_of_getElem? (i := 1028) (by decide +kernel)))))
  · exact va_Nw.of (A := #[Value.ref b]) rfl (sb_sel rfl (hts (Jvm.Cond.privateMethod ({ cls := "java/lang/AbstractStringBuilder", name := "putStringAt", desc := "(ILjava/lang/String;)V" } : Jvm.MethodName)) (List.mem_append_right _ (List.mem_of_getElem? (i := 1047) (by decide +kernel)))) (hts (Jvm.Cond.instanceMethod ({ cls := "java/lang/AbstractStringBuilder", name := "putStringAt", desc := "(ILjava/lang/String;)V" } : Jvm.MethodName)) (List.mem_append_right _ (List.mem_of_getElem? (i := 1048) (by decide +kernel)))) (hts (Jvm.Cond.selects "java/lang/StringBuilder" ({ cls := "java/lang/AbstractStringBuilder", name := "isLatin1", desc := "()Z" } : Jvm.MethodName) ({ cls := "java/lang/AbstractStringBuilder", name := "isLatin1", desc := "()Z" } : Jvm.MethodName)) (List.mem_append_right _ (List.mem_of_getElem? (i := 1028) (by decide +kernel)))))
  · exact va_Nw.of (A := #[Value.ref b]) rfl (sb_sel rfl (hts (Jvm.Cond.privateMethod ({ cls := "java/lang/AbstractStringBuilder", name := "inflateIfNeededFor", desc := "(Ljava/lang/String;)V" } : Jvm.MethodName)) (List.mem_append_right _ (List.mem_of_getElem? (i := 1051) (by decide +kernel)))) (hts (Jvm.Cond.instanceMethod ({ cls := "java/lang/AbstractStringBuilder", name := "inflateIfNeededFor", desc := "(Ljava/lang/String;)V" } : Jvm.MethodName)) (List.mem_append_right _ (List.mem_of_getElem? (i := 1052) (by decide +kernel)))) (hts (Jvm.Cond.selects "java/lang/StringBuilder" ({ cls := "java/lang/AbstractStringBuilder", name := "isLatin1", desc := "()Z" } : Jvm.MethodName) ({ cls := "java/lang/AbstractStringBuilder", name := "isLatin1", desc := "()Z" } : Jvm.MethodName)) (List.mem_append_right _ (List.mem_of_getElem? (i := 1028) (by decide +kernel)))))
set_option maxRecDepth 100000 in
theorem zf_dO : zFl[125]? = some (Cond.arrayOf (.static "java/lang/Integer" "DigitOnes" "[B") .byte) ∧ zFl[126]? = some (Cond.eq (.length (.static "java/lang/Integer" "DigitOnes" "[B")) (.int (Int32.ofNat 100))) := by decide +kernel
set_option maxRecDepth 100000 in
theorem zf_deO : ∀ j, j < 100 → zFl[127 + j]? = some (Cond.eq (.elem (.static "java/lang/Integer" "DigitOnes" "[B") (.int (Int32.ofNat j))) (.int (nI (48 + j % 10)))) := by decide +kernel
set_option maxRecDepth 100000 in
theorem zf_dT : zFl[228]? = some (Cond.arrayOf (.static "java/lang/Integer" "DigitTens" "[B") .byte) ∧ zFl[229]? = some (Cond.eq (.length (.static "java/lang/Integer" "DigitTens" "[B")) (.int (Int32.ofNat 100))) := by decide +kernel
set_option maxRecDepth 100000 in
theorem zf_deT : ∀ j, j < 100 → zFl[230 + j]? = some (Cond.eq (.elem (.static "java/lang/Integer" "DigitTens" "[B") (.int (Int32.ofNat j))) (.int (nI (48 + j / 10)))) := by decide +kernel
theorem zDg_start (hts : ∀ w ∈ lw_tbl, w.before #[Value.ref b] s = true) (hgv : (Jvm.Cond.and given_1 narrow_1).before #[Value.ref b] s = true) : ∃ dg, zDg dg s.heap.size s := by
  have hs : ∀ w, w ∈ zFl → w.before #[Value.ref b] s = true := flat_of_before _ hgv
  have hA : ∀ a : Nat, a < s.heap.size → ¬ zA s.heap.size a := fun a h1 h2 => absurd h2 (Nat.not_le.mpr h1)
  obtain ⟨t1, ht1, hT1⟩ := va_Tof (args := #[Value.ref b]) (s := s) (tm := .static "java/lang/Integer" "DigitOnes" "[B") (ty := .byte) (N := 100) (f := fun j => .int (nI (48 + j % 10))) (A := zA s.heap.size) (by decide) (hs _ (List.mem_of_getElem? zf_dO.1)) (va_eqt (hs _ (List.mem_of_getElem? zf_dO.2))) (fun j hj => va_eqt (hs _ (List.mem_of_getElem? (zf_deO j hj)))) hA
  obtain ⟨t2, ht2, hT2⟩ := va_Tof (args := #[Value.ref b]) (s := s) (tm := .static "java/lang/Integer" "DigitTens" "[B") (ty := .byte) (N := 100) (f := fun j => .int (nI (48 + j / 10))) (A := zA s.heap.size) (by decide) (hs _ (List.mem_of_getElem? zf_dT.1)) (va_eqt (hs _ (List.mem_of_getElem? zf_dT.2))) (fun j hj => va_eqt (hs _ (List.mem_of_getElem? (zf_deT j hj)))) hA
  exact ⟨(t1, t2), va_Zref (hts (Jvm.Cond.laysStatic "java/lang/Integer" "DigitOnes" "[B") (List.mem_append_right _ (List.mem_of_getElem? (i := 1108) (by decide +kernel)))) (hts (Jvm.Cond.initialized "java/lang/Integer") (List.mem_append_right _ (List.mem_of_getElem? (i := 23) (by decide +kernel)))) ht1 hA, hT1, va_Zref (hts (Jvm.Cond.laysStatic "java/lang/Integer" "DigitTens" "[B") (List.mem_append_right _ (List.mem_of_getElem? (i := 1110) (by decide +kernel)))) (hts (Jvm.Cond.initialized "java/lang/Integer") (List.mem_append_right _ (List.mem_of_getElem? (i := 23) (by decide +kernel)))) ht2 hA, hT2⟩
theorem zEn_start {L : Nat} {xs : Nat → Int32} (hts : ∀ w ∈ lw_tbl, w.before #[Value.ref b] s = true) (hgv : (Jvm.Cond.and given_1 narrow_1).before #[Value.ref b] s = true) (hLS : zLS s s.heap.size b L xs) : ∃ ev dg, zEn ev dg b L xs s.heap.size s := by
  have hs : ∀ w, w ∈ zFl → w.before #[Value.ref b] s = true := flat_of_before _ hgv
  obtain ⟨ev, h⟩ := zEnv_start hts hgv
  obtain ⟨dg, hd⟩ := zDg_start hts hgv
  exact ⟨ev, dg, ⟨h, zThr_start hts hgv, va_AO.of (hts (Jvm.Cond.arrayOver (Jvm.ClassFile.FieldType.object "BarrierFlow$Flow")) (List.mem_append_right _ (List.mem_of_getElem? (i := 434) (by decide +kernel))))⟩, zSl_start hts, hd, hLS⟩
theorem zNest_start (hts : ∀ w ∈ lw_tbl, w.before #[Value.ref b] s = true) : zNest s := by
  refine ⟨?_, va_Nw.of rfl (hts (Jvm.Cond.fieldLinkNest "BarrierFlow$Parser" (141 : Nat) "BarrierFlow" "WORDS" "[LBarrierFlow$Word;" "BarrierFlow") (List.mem_append_right _ (List.mem_of_getElem? (i := 881) (by decide +kernel))))⟩
  unfold zNsM
  simp only [List.forall_mem_cons]
  exact ⟨va_Nw.of rfl (hts (Jvm.Cond.methodLinkNest "BarrierFlow" (11 : Nat) ({ cls := "BarrierFlow$Input", name := "<init>", desc := "()V" } : Jvm.MethodName) "BarrierFlow") (List.mem_append_right _ (List.mem_of_getElem? (i := 41) (by decide +kernel)))), va_Nw.of rfl (hts (Jvm.Cond.methodLinkNest "BarrierFlow" (27 : Nat) ({ cls := "BarrierFlow$Output", name := "<init>", desc := "()V" } : Jvm.MethodName) "BarrierFlow") (List.mem_append_right _ (List.mem_of_getElem? (i := 89) (by decide +kernel)))), va_Nw.of rfl (hts (Jvm.Cond.methodLinkNest "BarrierFlow" (34 : Nat) ({ cls := "BarrierFlow$Setup", name := "<init>", desc := "()V" } : Jvm.MethodName) "BarrierFlow") (List.mem_append_right _ (List.mem_of_getElem? (i := 101) (by decide +kernel)))), va_Nw.of rfl (hts (Jvm.Cond.methodLinkNest "BarrierFlow$Setup" (44 : Nat) ({ cls := "BarrierFlow", name := "fillRow", desc := "([II)V" } : Jvm.MethodName) "BarrierFlow") (List.mem_append_right _ (List.mem_of_getElem? (i := 163) (by decide +kernel)))), va_Nw.of rfl (hts (Jvm.Cond.methodLinkNest "BarrierFlow$Setup" (74 : Nat) ({ cls := "BarrierFlow", name := "numberOf", desc := "(II)I" } : Jvm.MethodName) "BarrierFlow") (List.mem_append_right _ (List.mem_of_getElem? (i := 180) (by decide +kernel)))), va_Nw.of rfl (hts (Jvm.Cond.methodLinkNest "BarrierFlow$Flow" (36 : Nat) ({ cls := "BarrierFlow$Checkpoint", name := "<init>", desc := "()V" } : Jvm.MethodName) "BarrierFlow") (List.mem_append_right _ (List.mem_of_getElem? (i := 222) (by decide +kernel)))), va_Nw.of rfl (hts (Jvm.Cond.methodLinkNest "BarrierFlow$Flow" (106 : Nat) ({ cls := "BarrierFlow", name := "copyRow", desc := "([I[I)V" } : Jvm.MethodName) "BarrierFlow") (List.mem_append_right _ (List.mem_of_getElem? (i := 295) (by decide +kernel)))), va_Nw.of rfl (hts (Jvm.Cond.methodLinkNest "BarrierFlow$Flow" (283 : Nat) ({ cls := "BarrierFlow", name := "fillRow", desc := "([II)V" } : Jvm.MethodName) "BarrierFlow") (List.mem_append_right _ (List.mem_of_getElem? (i := 328) (by decide +kernel)))), va_Nw.of rfl (hts (Jvm.Cond.methodLinkNest "BarrierFlow$Lists" (31 : Nat) ({ cls := "BarrierFlow", name := "copyRow", desc := "([I[I)V" } : Jvm.MethodName) "BarrierFlow") (List.mem_append_right _ (List.mem_of_getElem? (i := 598) (by decide +kernel)))), va_Nw.of rfl (hts (Jvm.Cond.methodLinkNest "BarrierFlow$Checkpoint" (62 : Nat) ({ cls := "BarrierFlow", name := "copyRow", desc := "([I[I)V" } : Jvm.MethodName) "BarrierFlow") (List.mem_append_right _ (List.mem_of_getElem? (i := 603) (by decide +kernel)))), va_Nw.of rfl (hts (Jvm.Cond.methodLinkNest "BarrierFlow$Checkpoint" (55 : Nat) ({ cls := "BarrierFlow", name := "fillRow", desc := "([II)V" } : Jvm.MethodName) "BarrierFlow") (List.mem_append_right _ (List.mem_of_getElem? (i := 617) (by decide +kernel)))), va_Nw.of rfl (hts (Jvm.Cond.methodLinkNest "BarrierFlow$Flow" (190 : Nat) ({ cls := "BarrierFlow", name := "channel", desc := "(II)I" } : Jvm.MethodName) "BarrierFlow") (List.mem_append_right _ (List.mem_of_getElem? (i := 627) (by decide +kernel)))), va_Nw.of rfl (hts (Jvm.Cond.methodLinkNest "BarrierFlow$Flow" (200 : Nat) ({ cls := "BarrierFlow", name := "numberOf", desc := "(II)I" } : Jvm.MethodName) "BarrierFlow") (List.mem_append_right _ (List.mem_of_getElem? (i := 634) (by decide +kernel)))), va_Nw.of rfl (hts (Jvm.Cond.methodLinkNest "BarrierFlow$Flow" (206 : Nat) ({ cls := "BarrierFlow", name := "ownerOf", desc := "(II)I" } : Jvm.MethodName) "BarrierFlow") (List.mem_append_right _ (List.mem_of_getElem? (i := 639) (by decide +kernel)))), va_Nw.of rfl (hts (Jvm.Cond.methodLinkNest "BarrierFlow$Checkpoint" (85 : Nat) ({ cls := "BarrierFlow", name := "channel", desc := "(II)I" } : Jvm.MethodName) "BarrierFlow") (List.mem_append_right _ (List.mem_of_getElem? (i := 1203) (by decide +kernel)))), va_Nw.of rfl (hts (Jvm.Cond.methodLinkNest "BarrierFlow$Checkpoint" (101 : Nat) ({ cls := "BarrierFlow", name := "ownerOf", desc := "(II)I" } : Jvm.MethodName) "BarrierFlow") (List.mem_append_right _ (List.mem_of_getElem? (i := 1208) (by decide +kernel)))), fun q hq => (by cases hq)⟩
theorem zV_start (hts : ∀ w ∈ lw_tbl, w.before #[Value.ref b] s = true) : ∃ D Ca, zV D Ca s := by
  have hz : ∀ w ∈ zTb, w.before #[Value.ref b] s = true := fun w hw => hts w (List.mem_filter.mp hw).1
  have h : ∀ k : Nat, ∃ p : ClassId × (Nat → Nat), ∀ q : vw_C, vwCl[k]? = some q → u_Kn s q.1 q.2.1 q.2.2 p.1 p.2 := by
    intro k
    match k with
    | 0 =>
      obtain ⟨c, i, hk⟩ := u_known (C := RX0) (T := TX0) (N := 11) (n := 11) hz zin_0 (hts (Jvm.Cond.instantiable "BarrierFlow$Checkpoint" (11 : Nat)) (List.mem_append_right _ (List.mem_of_getElem? (i := 221) (by decide +kernel))))
      exact ⟨(c, i), fun q hq => by cases hq; exact hk⟩
    | 1 =>
      obtain ⟨c, i, hk⟩ := u_known (C := RX1) (T := TX1) (N := 20) (n := 20) hz zin_1 (hts (Jvm.Cond.instantiable "BarrierFlow$Flow" (20 : Nat)) (List.mem_append_right _ (List.mem_of_getElem? (i := 188) (by decide +kernel))))
      exact ⟨(c, i), fun q hq => by cases hq; exact hk⟩
    | 2 =>
      obtain ⟨c, i, hk⟩ := u_known (C := RX2) (T := TX2) (N := 2) (n := 2) hz zin_2 (hts (Jvm.Cond.instantiable "BarrierFlow$Input" (2 : Nat)) (List.mem_append_right _ (List.mem_of_getElem? (i := 40) (by decide +kernel))))
      exact ⟨(c, i), fun q hq => by cases hq; exact hk⟩
    | 3 =>
      obtain ⟨c, i, hk⟩ := u_known (C := RX3) (T := TX3) (N := 4) (n := 4) hz zin_3 (hts (Jvm.Cond.instantiable "BarrierFlow$Lists" (4 : Nat)) (List.mem_append_right _ (List.mem_of_getElem? (i := 194) (by decide +kernel))))
      exact ⟨(c, i), fun q hq => by cases hq; exact hk⟩
    | 4 =>
      obtain ⟨c, i, hk⟩ := u_known (C := RX4) (T := TX4) (N := 2) (n := 2) hz zin_4 (hts (Jvm.Cond.instantiable "BarrierFlow$Output" (2 : Nat)) (List.mem_append_right _ (List.mem_of_getElem? (i := 88) (by decide +kernel))))
      exact ⟨(c, i), fun q hq => by cases hq; exact hk⟩
    | 5 =>
      obtain ⟨c, i, hk⟩ := u_known (C := RX5) (T := TX5) (N := 8) (n := 8) hz zin_5 (hts (Jvm.Cond.instantiable "BarrierFlow$Parser" (8 : Nat)) (List.mem_append_right _ (List.mem_of_getElem? (i := 57) (by decide +kernel))))
      exact ⟨(c, i), fun q hq => by cases hq; exact hk⟩
    | 6 =>
      obtain ⟨c, i, hk⟩ := u_known (C := RX6) (T := TX6) (N := 3) (n := 3) hz zin_6 (hts (Jvm.Cond.instantiable "BarrierFlow$Past" (3 : Nat)) (List.mem_append_right _ (List.mem_of_getElem? (i := 428) (by decide +kernel))))
      exact ⟨(c, i), fun q hq => by cases hq; exact hk⟩
    | 7 =>
      obtain ⟨c, i, hk⟩ := u_known (C := RX7) (T := TX7) (N := 11) (n := 11) hz zin_7 (hts (Jvm.Cond.instantiable "BarrierFlow$Setup" (11 : Nat)) (List.mem_append_right _ (List.mem_of_getElem? (i := 100) (by decide +kernel))))
      exact ⟨(c, i), fun q hq => by cases hq; exact hk⟩
    | 8 =>
      obtain ⟨c, i, hk⟩ := u_known (C := RX9) (T := TX9) (N := 10) (n := 10) hz zin_8 (hts (Jvm.Cond.instantiable "BarrierFlow" (10 : Nat)) (List.mem_append_right _ (List.mem_of_getElem? (i := 32) (by decide +kernel))))
      exact ⟨(c, i), fun q hq => by cases hq; exact hk⟩
    | 9 =>
      obtain ⟨c, i, hk⟩ := u_known (C := RS9) (T := TS9) (N := 4) (n := 4) hz zin_9 (hts (Jvm.Cond.instantiable "java/lang/String" (4 : Nat)) (List.mem_append_right _ (List.mem_of_getElem? (i := 1132) (by decide +kernel))))
      exact ⟨(c, i), fun q hq => by cases hq; exact hk⟩
    | 10 =>
      obtain ⟨c, i, hk⟩ := u_known (C := RS10) (T := TS10) (N := 4) (n := 4) hz zin_10 (hts (Jvm.Cond.instantiable "java/lang/StringBuilder" (4 : Nat)) (List.mem_append_right _ (List.mem_of_getElem? (i := 953) (by decide +kernel))))
      exact ⟨(c, i), fun q hq => by cases hq; exact hk⟩
    | k + 11 => exact ⟨(0, fun _ => 0), fun q hq => by cases hq⟩
  obtain ⟨D0, hD0⟩ := Classical.axiomOfChoice h
  obtain ⟨c1, k1, p1, a1, b1, d1⟩ := Cond.arrayClass_spec (hts (Jvm.Cond.arrayClass Jvm.ClassFile.FieldType.int) (List.mem_append_right _ (List.mem_of_getElem? (i := 154) (by decide +kernel))))
  obtain ⟨c2, k2, p2, a2, b2, d2⟩ := Cond.arrayClass_spec (hts (Jvm.Cond.arrayClass Jvm.ClassFile.FieldType.byte) (List.mem_append_right _ (List.mem_of_getElem? (i := 55) (by decide +kernel))))
  obtain ⟨p4, c4, k4, f4, -, b4, d4, a4⟩ := Cond.arrayOver_spec (hts (Jvm.Cond.arrayOver (Jvm.ClassFile.FieldType.object "BarrierFlow$Flow")) (List.mem_append_right _ (List.mem_of_getElem? (i := 434) (by decide +kernel))))
  refine ⟨(fun k => (D0 k).1, fun k => (D0 k).2), fun t => if t = 1 then c1 else if t = 2 then c2 else if t = 3 then c1 else c4, fun k q hq => hD0 k q hq, fun k q hq => ?_⟩
  match k, hq with
  | 0, hq => cases hq; exact ⟨fun n z => ⟨fun k h => (by cases h), k1, b1, p1, d1⟩, a1⟩
  | 1, hq => cases hq; exact ⟨fun n z => ⟨fun k h => (by cases h), k2, b2, p2, d2⟩, a2⟩
  | 2, hq => cases hq; exact ⟨fun n z => ⟨fun k h => (by cases h), k1, b1, p1, d1⟩, a1⟩
  | 3, hq => cases hq; exact ⟨fun n z => ⟨fun k h => (by cases h), k4, b4, p4, d4⟩, k4, p4, b4, d4, f4, a4⟩
  | k + 4, hq => cases hq
end ZST
