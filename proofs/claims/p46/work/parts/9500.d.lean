/-! DRAWING out of the script. -/
theorem dL_cell_0 : decode cL_cell 0 = .ok (.iload_n 1, 1) := by decide +kernel
theorem dL_cell_1 : decode cL_cell 1 = .ok (.aload_n 0, 1) := by decide +kernel
theorem dL_cell_2 : decode cL_cell 2 = .ok (.arraylength, 1) := by decide +kernel
theorem dL_cell_3 : decode cL_cell 3 = .ok (.if_icmp .ge 9, 3) := by decide +kernel
theorem dL_cell_6 : decode cL_cell 6 = .ok (.aload_n 0, 1) := by decide +kernel
theorem dL_cell_7 : decode cL_cell 7 = .ok (.iload_n 1, 1) := by decide +kernel
theorem dL_cell_8 : decode cL_cell 8 = .ok (.iaload, 1) := by decide +kernel
theorem dL_cell_9 : decode cL_cell 9 = .ok (.goto 10, 3) := by decide +kernel
theorem dL_cell_12 : decode cL_cell 12 = .ok (.ldc 7, 2) := by decide +kernel
theorem dL_cell_14 : decode cL_cell 14 = .ok (.iload_n 1, 1) := by decide +kernel
theorem dL_cell_15 : decode cL_cell 15 = .ok (.imul, 1) := by decide +kernel
theorem dL_cell_16 : decode cL_cell 16 = .ok (.bipush 71, 2) := by decide +kernel
theorem dL_cell_18 : decode cL_cell 18 = .ok (.iadd, 1) := by decide +kernel
theorem dL_cell_19 : decode cL_cell 19 = .ok (.ireturn, 1) := by decide +kernel
theorem dL_draw_0 : decode cL_draw 0 = .ok (.iload_n 2, 1) := by decide +kernel
theorem dL_draw_1 : decode cL_draw 1 = .ok (.aload_n 0, 1) := by decide +kernel
theorem dL_draw_2 : decode cL_draw 2 = .ok (.iload_n 1, 1) := by decide +kernel
theorem dL_draw_3 : decode cL_draw 3 = .ok (.invokestatic 8, 3) := by decide +kernel
theorem dL_draw_6 : decode cL_draw 6 = .ok (.ldc 14, 2) := by decide +kernel
theorem dL_draw_8 : decode cL_draw 8 = .ok (.iand, 1) := by decide +kernel
theorem dL_draw_9 : decode cL_draw 9 = .ok (.iload_n 3, 1) := by decide +kernel
theorem dL_draw_10 : decode cL_draw 10 = .ok (.iload_n 2, 1) := by decide +kernel
theorem dL_draw_11 : decode cL_draw 11 = .ok (.isub, 1) := by decide +kernel
theorem dL_draw_12 : decode cL_draw 12 = .ok (.iconst 1, 1) := by decide +kernel
theorem dL_draw_13 : decode cL_draw 13 = .ok (.iadd, 1) := by decide +kernel
theorem dL_draw_14 : decode cL_draw 14 = .ok (.irem, 1) := by decide +kernel
theorem dL_draw_15 : decode cL_draw 15 = .ok (.iadd, 1) := by decide +kernel
theorem dL_draw_16 : decode cL_draw 16 = .ok (.ireturn, 1) := by decide +kernel
theorem kw_780 : (Jvm.Cond.constant "BarrierFlowLaw" (7 : Nat) (1013904223 : Int32)) ∈ zTb := zTb_of 780 (by decide +kernel) (by decide +kernel)
theorem kw_777 : (Jvm.Cond.methodLink "BarrierFlowLaw" (8 : Nat) ({ cls := "BarrierFlowLaw", name := "cell", desc := "([II)I" } : Jvm.MethodName)) ∈ zTb := zTb_of 777 (by decide +kernel) (by decide +kernel)
theorem kw_0 : (Jvm.Cond.initialized "BarrierFlowLaw") ∈ zTb := zTb_of 0 (by decide +kernel) (by decide +kernel)
theorem kw_779 : (Jvm.Cond.code ({ cls := "BarrierFlowLaw", name := "cell", desc := "([II)I" } : Jvm.MethodName) method_2_code (2 : Nat) (Option.some Jvm.ClassFile.FieldType.int)) ∈ zTb := zTb_of 779 (by decide +kernel) (by decide +kernel)
theorem kw_778 : (Jvm.Cond.static ({ cls := "BarrierFlowLaw", name := "cell", desc := "([II)I" } : Jvm.MethodName)) ∈ zTb := zTb_of 778 (by decide +kernel) (by decide +kernel)
theorem hyL_cell : yL_cell.cls ≠ "java/lang/invoke/MethodHandle" ∧ yL_cell.cls ≠ "java/lang/invoke/VarHandle" ∧ (parseMethodDescriptor yL_cell.desc).map (fun d => d.parameters.length) = some 2 := ⟨by decide +kernel, by decide +kernel, by decide +kernel⟩
theorem kw_781 : (Jvm.Cond.constant "BarrierFlowLaw" (14 : Nat) (2147483647 : Int32)) ∈ zTb := zTb_of 781 (by decide +kernel) (by decide +kernel)
def cv (xs : Nat → Int32) (L k : Nat) : Int32 := if k < L then xs k else zi 1013904223 * zi (k : Int) + zi 71
def dr (xs : Nat → Int32) (L k : Nat) (lo hi : Int) : Int := lo + (((cv xs L k).toUInt32.toNat % 2 ^ 31 : Nat) : Int) % (hi - lo + 1)
theorem dr_in (xs : Nat → Int32) (L k : Nat) {lo hi : Int} (h : lo ≤ hi) : lo ≤ dr xs L k lo hi ∧ dr xs L k lo hi ≤ hi := by
  unfold dr
  have h1 := Int.emod_nonneg (((cv xs L k).toUInt32.toNat % 2 ^ 31 : Nat) : Int) (show hi - lo + 1 ≠ 0 by omega)
  have h2 := Int.emod_lt_of_pos (((cv xs L k).toUInt32.toNat % 2 ^ 31 : Nat) : Int) (show 0 < hi - lo + 1 by omega)
  omega
theorem fa_and (a b : Nat) : nI a &&& nI b = nI (a &&& b) := by
  apply Int32.toBitVec_inj.1
  show BitVec.ofNat 32 a &&& BitVec.ofNat 32 b = BitVec.ofNat 32 (a &&& b)
  apply BitVec.eq_of_getLsbD_eq
  intro i hi
  simp [hi]
theorem nI_of_u (c : Int32) : c = nI c.toUInt32.toNat := by
  apply Int32.toBitVec_inj.1
  show c.toBitVec = BitVec.ofNat 32 c.toUInt32.toNat
  rw [← UInt32.toNat_toBitVec, Int32.toBitVec_toUInt32, BitVec.ofNat_toNat, BitVec.setWidth_eq]
theorem and_max (c : Int32) : c &&& zi 2147483647 = zi ((c.toUInt32.toNat % 2 ^ 31 : Nat) : Int) := by
  conv => lhs; rw [nI_of_u c]
  rw [show zi 2147483647 = nI (2 ^ 31 - 1) from rfl, fa_and, Nat.and_two_pow_sub_one_eq_mod, zi_nI]
theorem draw_eq (c : Int32) {lo hi : Int} (h0 : 0 ≤ lo) (h1 : lo ≤ hi) (h2 : hi < 1000) : zi lo + ((c &&& zi 2147483647) - (c &&& zi 2147483647) / (zi hi - zi lo + zi 1) * (zi hi - zi lo + zi 1)) = zi (lo + ((c.toUInt32.toNat % 2 ^ 31 : Nat) : Int) % (hi - lo + 1)) := by
  have hm : c.toUInt32.toNat % 2 ^ 31 < 2 ^ 31 := Nat.mod_lt _ (by decide)
  rw [and_max, zi_sub, zi_add, zi_mod (by omega) (by omega) (by omega) (by omega), zi_add]
section DR
variable {D : va_G} {Ca : Nat → ClassId} {B : Nat} {En : State → Prop} {b L : Nat} {xs : Nat → Int32}
theorem mL_cell (l : Launch) (hE : zEk B En) (hY : ∀ U, En U → zLS U B b L xs) (σ : zS) (N k : Nat) (hk : k < 1000) : zMi l D Ca B En yL_cell cL_cell 2 (Option.some Jvm.ClassFile.FieldType.int) 0 0 [.ref b, .int (zi k)] σ N σ (cv xs L k) := by
  refine zMet_i (own := RL) hE (by decide +kernel) rfl (Nat.le_of_ble_eq_true rfl) (fun p e s m args below meth c C hr hRm => ?_)
  have hS9 := hY s C.2.2.2.2.2.2.1
  have hL := hS9.2.2.2
  refine z_iload_n C dL_cell_0 rfl 1 rfl ?_
  refine z_aload_n C dL_cell_1 rfl 0 rfl ?_
  refine z_slen C hS9 dL_cell_2 ?_
  unfold cv
  refine z_icmp_ge C 12 dL_cell_3 (by decide) (fun q => ?_) (fun q => ?_)
  · rw [zi_le (by omega) (by omega) (by omega) (by omega)] at q
    rw [if_neg (by omega)]
    refine z_ldc C kw_780 (zi 1013904223) (by decide) dL_cell_12 ?_
    refine z_iload_n C dL_cell_14 rfl 1 rfl ?_
    refine z_imul C dL_cell_15 ?_
    refine z_bipush C (zi 71) dL_cell_16 (by decide) ?_
    refine z_iadd C dL_cell_18 ?_
    exact zfin_i C hr dL_cell_19
  · rw [zi_le (by omega) (by omega) (by omega) (by omega)] at q
    rw [if_pos (by omega)]
    refine z_aload_n C dL_cell_6 rfl 0 rfl ?_
    refine z_iload_n C dL_cell_7 rfl 1 rfl ?_
    refine z_sld C hS9 k rfl (by omega) dL_cell_8 ?_
    refine z_goto C 19 dL_cell_9 (by decide) ?_
    exact zfin_i C hr dL_cell_19
theorem mL_draw (l : Launch) (hE : zEk B En) (hY : ∀ U, En U → zLS U B b L xs) (σ : zS) (N k : Nat) (hk : k < 1000) {lo hi : Int} (h0 : 0 ≤ lo) (h1 : lo ≤ hi) (h2 : hi < 1000) : zMi l D Ca B En yL_draw cL_draw 4 (Option.some Jvm.ClassFile.FieldType.int) 1 21 [.ref b, .int (zi k), .int (zi lo), .int (zi hi)] σ N σ (zi (dr xs L k lo hi)) := by
  refine zMet_i (own := RL) hE (by decide +kernel) rfl (Nat.le_of_ble_eq_true rfl) (fun p e s m args below meth c C hr hRm => ?_)
  refine z_iload_n C dL_draw_0 rfl 2 rfl ?_
  refine z_aload_n C dL_draw_1 rfl 0 rfl ?_
  refine z_iload_n C dL_draw_2 rfl 1 rfl ?_
  refine z_callSi (As := [.ref b, .int (zi k)]) (F0 := 1) (L0 := 21) C (mL_cell l C.2.2.2.2.2.2.2.1 hY σ N k hk) hRm kw_779 kw_0 kw_777 kw_778 hyL_cell (Nat.le_of_ble_eq_true rfl) (Nat.le_of_ble_eq_true rfl) rfl rfl (Nat.le_of_ble_eq_true rfl) dL_draw_3 ?_
  refine z_ldc C kw_781 (zi 2147483647) (by decide) dL_draw_6 ?_
  refine z_iand C dL_draw_8 ?_
  refine z_iload_n C dL_draw_9 rfl 3 rfl ?_
  refine z_iload_n C dL_draw_10 rfl 2 rfl ?_
  refine z_isub C dL_draw_11 ?_
  refine z_iconst C (zi 1) dL_draw_12 (by decide) ?_
  refine z_iadd C dL_draw_13 ?_
  refine z_irem C dL_draw_14 (fun q => ?_) ?_
  · have q2 : zi hi - zi lo + zi 1 = zi 0 := q
    rw [zi_sub, zi_add, zi_eq (by omega) (by omega) (by omega) (by omega)] at q2
    omega
  refine z_iadd C dL_draw_15 ?_
  unfold dr
  rw [draw_eq (cv xs L k) h0 h1 h2]
  exact zfin_i C hr dL_draw_16
end DR
