/-! Floats: no answer is a NaN. -/
theorem ff_32 {a : UInt32} (h : FP.Core.fIsNaN a = false) : vf_n32 a := by
  have h1 := (FP.Core.ne_nan32 a).mp ((FP.Core.notNaN_iff32 a).mp h)
  unfold vf_n32
  rw [UInt32.le_iff_toNat_le, FP.Core.mask_toNat32]
  exact h1
theorem ff_64 {a : UInt64} (h : FP.Core.dIsNaN a = false) : vf_n64 a := by
  have h1 := (FP.Core.ne_nan a).mp ((FP.Core.notNaN_iff a).mp h)
  unfold vf_n64
  rw [UInt64.le_iff_toNat_le, FP.Core.mask_toNat]
  exact h1
theorem zn32_of {a : UInt32} (h : FP.Core.fIsNaN a = false) : zn32 a = some a := if_pos (ff_32 h)
theorem zn64_of {a : UInt64} (h : FP.Core.dIsNaN a = false) : zn64 a = some a := if_pos (ff_64 h)
theorem ff_0 : zi 0 = (0 : Int32) := rfl
theorem aRep_ok (P : qP) (M : qM) : ∃ v, aRep P M = some v ∧ FP.Core.fIsNaN v = false := by
  unfold aRep
  by_cases h : zi (M.1 8) = zi 0
  · rw [if_pos h]
    exact ⟨0, rfl, by decide +kernel⟩
  · rw [if_neg h]
    have h2 : FP.Core.fIsNaN (FP.fdiv (FP.i2f (zi (M.1 8) - zi (qpos P M))) (FP.i2f (zi (M.1 8)))) = false :=
      FP.Core.fdiv_out (FP.Core.FFin.notNaN (FP.Core.i2f_fin _)) (FP.Core.i2f_fin _) (fun q => FP.Core.i2f_ne_zero (v := zi (M.1 8)) (fun e => h (e.trans ff_0.symm)) ((FP.Core.zero_bits232 _).mp q))
    exact ⟨_, zn32_of h2, h2⟩
theorem aSkew_ok (M : qM) (hm : zi (qmany M) ≠ zi 0) : ∃ v, aSkew M = some v ∧ FP.Core.dIsNaN v = false := by
  unfold aSkew
  by_cases h : zi (qmost M) = zi 0
  · rw [if_pos h]
    exact ⟨0, rfl, by decide +kernel⟩
  · rw [if_neg h]
    have h2 : FP.Core.dIsNaN (FP.ddiv (FP.i2d (zi (qhand M))) (FP.i2d (zi (qmany M)))) = false :=
      FP.Core.ddiv_out (FP.Core.DFin.notNaN (FP.Core.i2d_fin _)) (FP.Core.i2d_fin _) (fun q => FP.Core.i2d_ne_zero (v := zi (qmany M)) (fun e => hm (e.trans ff_0.symm)) ((FP.Core.zero_bits2 _).mp q))
    rw [zn64_of h2, Option.bind_some]
    have h3 : FP.Core.dIsNaN (FP.ddiv (FP.i2d (zi (qmost M))) (FP.ddiv (FP.i2d (zi (qhand M))) (FP.i2d (zi (qmany M))))) = false :=
      FP.Core.ddiv_out' (FP.Core.i2d_fin _) (fun q => FP.Core.i2d_ne_zero (v := zi (qmost M)) (fun e => h (e.trans ff_0.symm)) ((FP.Core.zero_bits2 _).mp q)) h2
    exact ⟨_, zn64_of h3, h3⟩
theorem ff_f2d {a : UInt32} (h : FP.Core.fIsNaN a = false) : vf_n64 (FP.f2d a) ∧ FP.Core.dIsNaN (FP.f2d a) = false := by
  have h2 : FP.Core.dIsNaN (FP.f2d a) = false := by
    unfold FP.f2d
    rw [if_neg (by rw [h]; decide)]
    exact FP.Core.f2d_out h
  exact ⟨ff_64 h2, h2⟩
theorem ff_cmp {a : UInt64} (h : FP.Core.dIsNaN a = false) (op : CmpOp) : Op.cmpValue (FP.dcmp a a) op = 0 := by
  rw [show FP.dcmp a a = some .eq from FP.Core.dcmp_self ((FP.Core.notNaN_iff a).mp h)]
  cases op <;> decide
