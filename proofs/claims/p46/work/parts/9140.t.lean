/-! A throw. -/
def zEdL : List String := ["java/lang/RuntimeException", "java/lang/Exception", "java/lang/Throwable"]
def zEbL : List Cond := (zEdL.map fun q => Cond.declares (Bundle.init0 q)) ++ [Cond.castable (zEx 1) (zEx 1), Cond.castable (zEx 2) (zEx 2), Cond.castable (zEx 3) (zEx 3), Cond.castable (zEx 4) (zEx 4)]
/-- what throwing wants of the state behind the tables' good words -/
def zThr (B : Nat) (U : State) : Prop := (vx_Zq Bundle.tN "UNASSIGNED_STACK" Bundle.steD (zA B) U U.heap ∧ vx_Zq Bundle.tN "SUPPRESSED_SENTINEL" Bundle.listD (zA B) U U.heap) ∧ ∀ w ∈ zEbL, va_Nw w U
theorem zEb : ∀ k, k = 1 ∨ k = 2 ∨ k = 3 ∨ k = 4 → ((zEl k).filter (fun w => !goodWord w)).all (fun w => decide (w ∈ zEbL)) = true := by
  rintro k (rfl | rfl | rfl | rfl) <;> decide +kernel
theorem zEt : ∀ k, k = 1 ∨ k = 2 ∨ k = 3 ∨ k = 4 → (zEl k).all (fun w => decide (w ∈ tables_1) && vx_ot w) = true := by
  rintro k (rfl | rfl | rfl | rfl)
  · exact zEl_1
  · exact zEl_2
  · exact zEl_3
  · exact zEl_4
theorem zEf : ∀ k, k = 1 ∨ k = 2 ∨ k = 3 ∨ k = 4 → Bundle.fit (zEx k) = true := by
  rintro k (rfl | rfl | rfl | rfl) <;> decide +kernel
theorem zEf2 : ∀ n ∈ zEn2, Bundle.fit n = true := by decide +kernel
theorem zEo : ∀ w ∈ zEbL, w.onTables = true := fun w h => List.all_eq_true.mp (show zEbL.all Cond.onTables = true from by decide +kernel) w h
section ZT
variable {p : Program} {l : Launch} {e : Env} {R : Room} {s : State} {m : MethodId} {args : Array Value} {below : List Frame} {meth : Method} {c : Code} {cells slots : Nat} {D : va_G} {Ca : Nat → ClassId} {B nL : Nat} {En : State → Prop} {cc : ByteArray} {σ : zS} {N pc k : Nat} {lv : List (Nat × Value)}
theorem zEwd (hk : k = 1 ∨ k = 2 ∨ k = 3 ∨ k = 4) (C : zC p s m args meth c cc RX9 nL D Ca B En) (hT : ∀ U, En U → zThr B U) : ∀ w ∈ zEl k, w.before args s = true := by
  have hs := hT s C.2.2.2.2.2.2.1
  have ht := List.all_eq_true.mp (zEt k hk)
  refine vx_hat (B := zEbL) (fun w hw => ?_) (fun w hw => of_decide_eq_true (List.all_eq_true.mp (zEb k hk) w hw)) (fun w hw => va_Nw.use (zEo w hw) (hs.2 w hw))
  obtain ⟨h1, h2⟩ := List.mem_filter.mp hw
  have h3 := ht w h1
  simp only [Bool.and_eq_true, decide_eq_true_eq] at h3
  exact C.2.2.2.1 w (List.mem_filter.mpr ⟨List.mem_append_right _ h3.1, h2⟩)
theorem z_throw (k : Nat) (hk : k = 1 ∨ k = 2 ∨ k = 3 ∨ k = 4) (C : zC p s m args meth c cc RX9 nL D Ca B En) (hT : ∀ U, En U → zThr B U) (hl0 : l.stackTraces = false) (hx : ∀ x ∈ c.exceptionTable.toList, False) {F0 L0 : Nat} (hRm : zRm R F0 L0 cells slots) (hF : 6 ≤ F0) (hL : 81 ≤ L0) (hc1 : cells + 1 ≤ R.cells) (hs6 : slots + 6 ≤ R.slots) (hc : cells = 0) (hs : slots = 0) (d0 : decode cc pc = .ok (.new (zEi k), 3)) (d3 : decode cc (pc + 3) = .ok (.dup, 1)) (d4 : decode cc (pc + 4) = .ok (.invokespecial (zEc k), 3)) (d7 : decode cc (pc + 7) = .ok (.athrow, 1)) :
    zW p l e R s m args below meth c cells slots (vx_MQ below (fun _ _ _ _ => False) (zXC D Ca B σ N k) args s 1 6 (zA B)) D Ca B nL σ N pc lv [] := by
  intro H locs ls h hS hl
  have hw := zEwd hk C hT
  have ht := List.all_eq_true.mp (zEt k hk)
  have hq := (hT s C.2.2.2.2.2.2.1).1
  refine vx_throw0 (cc := cc) (own := RX9) (cls := zEx k) (names := zEn2) (ik := zEi k) (ic := zEc k) C.1 C.2.1 hl0 C.2.2.2.2.1 (zEf k hk) zEf2 (hw _ List.mem_cons_self) (hw _ (List.mem_cons_of_mem _ List.mem_cons_self)) (fun w h9 => hw w (List.mem_cons_of_mem _ (List.mem_cons_of_mem _ h9))) (fun w h9 => ?_) hq.1 hq.2 hS (hl.1.trans C.2.2.1.symm) d0 d3 d4 d7 (fun x h9 => (hx x h9).elim) (Nat.lt_of_lt_of_le (show 5 < F0 by omega) hRm.1) ?_ hc1 hs6 C.2.2.2.2.2.2.2.2.2.1 (fun t h1 h2 h3 => ?_) hS.2.2 (by omega) (by omega)
  · have h3 := ht w h9
    simp only [Bool.and_eq_true] at h3
    exact h3.2
  · exact Nat.le_trans (show 0 + (13 * (2 + 1) + 42) ≤ L0 by omega) hRm.2.1
  · refine ⟨t.heap.size, by rw [← h.1]; exact h2, ⟨rfl, zH_grow h h2 h3⟩, Nat.le_trans hS.1 h2, fun q q1 q2 => ?_⟩
    rw [h3 q (Nat.lt_of_lt_of_le q1 hS.1)]
    exact hS.2.1 q q1 q2
end ZT
