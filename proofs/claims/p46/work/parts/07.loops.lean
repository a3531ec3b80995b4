/-! Loops, small checks, copies of rows, constants of the pool. -/
def zfuel : Nat := 1000000
def zloop {S R : Type} (step : S → Option (S ⊕ R)) : Nat → S → Option R
  | 0, _ => none
  | n + 1, s => (step s).bind fun y => match y with
    | .inl s2 => zloop step n s2
    | .inr x => some x
theorem zloop_W {S R : Type} {step : S → Option (S ⊕ R)} {P : S → Prop} {K : R → Prop} (hs : ∀ (s : S) (y : S ⊕ R), step s = some y → (∀ s2, y = .inl s2 → P s2) → (∀ x, y = .inr x → K x) → P s) : ∀ (n : Nat) (s : S) (x : R), zloop step n s = some x → K x → P s
  | 0, s, x, h, _ => by cases h
  | n + 1, s, x, h, hK => by
    obtain ⟨y, hy, h⟩ := zbind h
    refine hs s y hy (fun s2 e => ?_) (fun x2 e => ?_)
    · subst e
      exact zloop_W hs n s2 x h hK
    · subst e
      cases h
      exact hK
def zrZ (σ : zS) (r : Int32) : Option (zS × Int32) := if r = 0 ∨ r = 1 then some (σ, r) else none
theorem zrZ_ok {σ : zS} {r : Int32} {x : zS × Int32} (h : zrZ σ r = some x) : (σ, r) = x ∧ (r = 0 ∨ r = 1) := by
  unfold zrZ at h
  by_cases hk : r = 0 ∨ r = 1
  · rw [if_pos hk] at h; exact ⟨Option.some.inj h, hk⟩
  · rw [if_neg hk] at h; cases h
def znz (y : Int32) : Option Unit := if y = 0 then none else some ()
theorem znz_ok {y : Int32} {u : Unit} (h : znz y = some u) : ¬ y = 0 := fun e => by
  unfold znz at h
  rw [if_pos e] at h
  cases h
theorem zsw {x : Int32} (lo : Int) (n : Nat) {hi : Int} (h : ∀ k : Nat, k < n → ¬ x = Int32.ofInt (lo + k)) (he : hi = lo + n - 1) : x.toInt < lo ∨ hi < x.toInt := by
  rcases Int.lt_or_le x.toInt lo with q | q
  · exact Or.inl q
  · rcases Int.lt_or_le hi x.toInt with q2 | q2
    · exact Or.inr q2
    · exfalso
      refine h (x.toInt - lo).toNat (by omega) ?_
      have e : lo + ((x.toInt - lo).toNat : Int) = x.toInt := by omega
      rw [e, Int32.ofInt_toInt]
/-- one row's part goes into another (or the same) row -/
def zcp (σ : zS) (a sp b dp n : Nat) : zS := (σ.1, (fun q => if q = b then va_cpy (σ.2.1 a) (σ.2.1 b) sp dp n else σ.2.1 q), σ.2.2)
def zcI (σ : zS) (a : Nat) (sp : Int32) (b : Nat) (dp n : Int32) : Option zS := if (σ.1 a).1 = 1 ∧ (σ.1 b).1 = 1 ∧ ¬ sp < 0 ∧ ¬ dp < 0 ∧ ¬ n < 0 ∧ sp.toNatClampNeg + n.toNatClampNeg ≤ (σ.1 a).2 ∧ dp.toNatClampNeg + n.toNatClampNeg ≤ (σ.1 b).2 then some (zcp σ a sp.toNatClampNeg b dp.toNatClampNeg n.toNatClampNeg) else none
def zcY (σ : zS) (a : Nat) (sp : Int32) (b : Nat) (dp n : Int32) : Option zS := if (σ.1 a).1 = 2 ∧ (σ.1 b).1 = 2 ∧ ¬ sp < 0 ∧ ¬ dp < 0 ∧ ¬ n < 0 ∧ sp.toNatClampNeg + n.toNatClampNeg ≤ (σ.1 a).2 ∧ dp.toNatClampNeg + n.toNatClampNeg ≤ (σ.1 b).2 ∧ (List.range n.toNatClampNeg).all (fun i => fits .byte (.int (σ.2.1 a (sp.toNatClampNeg + i)))) = true then some (zcp σ a sp.toNatClampNeg b dp.toNatClampNeg n.toNatClampNeg) else none
theorem zcp_off {Ca : Nat → ClassId} {σ : zS} {a sp b dp n q : Nat} (h : q ≠ b) : zent Ca (zcp σ a sp b dp n) q = zent Ca σ q := zent_off rfl (if_neg h) rfl rfl
theorem zcp_at {σ : zS} {a sp b dp n : Nat} : (zcp σ a sp b dp n).2.1 b = va_cpy (σ.2.1 a) (σ.2.1 b) sp dp n := if_pos rfl

section ZR
variable {p : Program} {l : Launch} {e : Env} {R : Room} {s : State} {m : MethodId} {args : Array Value} {below : List Frame} {meth : Method} {c : Code} {cells slots : Nat} {Q : State → Prop} {D : va_G} {Ca : Nat → ClassId} {B nL : Nat} {En : State → Prop} {cc : ByteArray} {own : String} {σ : zS} {N pc : Nat} {lv : List (Nat × Value)} {st : List Value}

theorem z_copy (C : zC p s m args meth c cc own nL D Ca B En) {index a b : Nat} {sp dp n : Int32} {FR LR kd : Nat} {ty : FieldType} (hRm : zRm R FR LR cells slots) (hF : 1 ≤ FR) (hL : 64 ≤ LR) (hlink : Cond.methodLink own index arraycopyName ∈ zTb) (hnat : Cond.native arraycopyName ∈ zTb) (hstat : Cond.static arraycopyName ∈ zTb) (hini : Cond.initialized "java/lang/System" ∈ zTb) (hprim : refKind ty = false)
    (ht : ∃ t0 : Nat, (ztys Ca)[t0]? = some (Ca kd, ty)) (ha : zent Ca σ a = some (.inl (Ca kd, (σ.1 a).2, .inl (σ.2.1 a)))) (hbe : zent Ca σ b = some (.inl (Ca kd, (σ.1 b).2, .inl (σ.2.1 b)))) (hbe2 : zent Ca (zcp σ a sp.toNatClampNeg b dp.toNatClampNeg n.toNatClampNeg) b = some (.inl (Ca kd, (σ.1 b).2, .inl (va_cpy (σ.2.1 a) (σ.2.1 b) sp.toNatClampNeg dp.toNatClampNeg n.toNatClampNeg))))
    (h1 : ¬ sp < 0) (h2 : ¬ dp < 0) (h3 : ¬ n < 0) (h4 : sp.toNatClampNeg + n.toNatClampNeg ≤ (σ.1 a).2) (h5 : dp.toNatClampNeg + n.toNatClampNeg ≤ (σ.1 b).2) (hfit : ∀ i, i < n.toNatClampNeg → fits ty (.int (σ.2.1 a (sp.toNatClampNeg + i))) = true)
    (hcat : (st.map fun v => v.category).sum ≤ 8) (hd : decode cc pc = .ok (.invokestatic index, 3)) (kk : zW p l e R s m args below meth c cells slots Q D Ca B nL (zcp σ a sp.toNatClampNeg b dp.toNatClampNeg n.toNatClampNeg) N (pc + 3) (lv) (st)) : zW p l e R s m args below meth c cells slots Q D Ca B nL σ N (pc) (lv) (.int n :: .int dp :: .ref b :: .int sp :: .ref a :: st) := by
  have nn : ∀ z : Int32, ¬ z < 0 → z.toInt = (z.toNatClampNeg : Int) := by
    intro z hz
    have hz0 : (0 : Int) ≤ z.toInt := by
      have := Int32.not_lt.mp hz
      simpa using Int32.le_iff_toInt_le.mp this
    show z.toInt = ((z.toInt.toNat : Nat) : Int)
    omega
  obtain ⟨t0, ht⟩ := ht
  intro H locs ls h hS hl T hT X
  have hA := h.2.2 a _ ha
  have hBb := h.2.2 b _ hbe
  have hc0 : H[a]? = some (vp_cell (Ca kd) ((σ.1 a).2, .inl (σ.2.1 a))) := hA.2
  have hc1 : H[b]? = some (vp_cell (Ca kd) ((σ.1 b).2, .inl (σ.2.1 b))) := hBb.2
  obtain ⟨-, k0, hk0, cm0, hkk0⟩ := (C.2.2.2.2.2.1.2 t0 _ ht).1 (σ.1 a).2 (fun j => .int (σ.2.1 a j))
  obtain ⟨-, k1, hk1, cm1, hkk1⟩ := (C.2.2.2.2.2.1.2 t0 _ ht).1 (σ.1 b).2 (fun j => .int (σ.2.1 b j))
  obtain ⟨vm', X', step⟩ := X.arraycopy C.1 C.2.2.2.2.1 (C.2.2.2.1 _ hlink) (C.2.2.2.1 _ hnat) (C.2.2.2.1 _ hstat) (C.2.2.2.1 _ hini) (src := a) (dst := b) (cs := vp_cell (Ca kd) ((σ.1 a).2, .inl (σ.2.1 a))) (cd := vp_cell (Ca kd) ((σ.1 b).2, .inl (σ.2.1 b))) (srcPos := sp) (destPos := dp) (n := n) (by rw [hT]; exact hc0) (by rw [hT]; exact hc1)
    (fun _ h => by cases h) (fun _ h => by cases h) (fun h => by cases h) (fun h => by cases h) hk0 hk1 hkk0 hkk1 (by simp [hprim]) h1 h2 h3
    (by rw [nn sp h1, nn n h3]; show ¬ _ > ((arrV (Ca kd) (σ.1 a).2 (fun j => .int (σ.2.1 a j))).slots.size : Int); rw [arrV_size]; omega)
    (by rw [nn dp h2, nn n h3]; show ¬ _ > ((arrV (Ca kd) (σ.1 b).2 (fun j => .int (σ.2.1 b j))).slots.size : Int); rw [arrV_size]; omega)
    (fun vm₁ _ i hi => by
      have e : (vp_cell (Ca kd) ((σ.1 a).2, .inl (σ.2.1 a))).slots.getD (sp.toNatClampNeg + i) .null = .int (σ.2.1 a (sp.toNatClampNeg + i)) := by
        show (arrV (Ca kd) (σ.1 a).2 (fun j => .int (σ.2.1 a j))).slots.getD _ _ = _
        rw [Array.getD_eq_getD_getElem?, arrV_read _ _ (by omega)]
        rfl
      refine ⟨?_, ?_⟩
      · rw [e]
        exact hfit i hi
      · rw [e]
        exact trivial)
    (g := F0 m pc ls (.int n :: .int dp :: .ref b :: .int sp :: .ref a :: st)) rfl (hl.1.trans C.2.2.1.symm) (rest := st) rfl (by rw [C.2.1]; exact hd) (Nat.le_trans hF hRm.1) (by
      have e : nativeFrameWords "java/lang/System" "arraycopy" 5 + 11 ≤ 56 := by decide +kernel
      have := Nat.le_trans hL hRm.2.1
      show 2 * 0 + _ + _ ≤ _
      omega)
  have e1 : copied (vp_cell (Ca kd) ((σ.1 a).2, .inl (σ.2.1 a))) (vp_cell (Ca kd) ((σ.1 b).2, .inl (σ.2.1 b))) sp dp n = vp_cell (Ca kd) ((σ.1 b).2, .inl (va_cpy (σ.2.1 a) (σ.2.1 b) sp.toNatClampNeg dp.toNatClampNeg n.toNatClampNeg)) := va_copied (fun z => .int z) (Ca kd) (Ca kd) (σ.2.1 a) (σ.2.1 b) h4
  rw [e1] at X' step
  have hlt : b < H.size := (Array.getElem?_eq_some_iff.mp hc1).1
  have hheap : ((T.setVm vm').setCell b (vp_cell (Ca kd) ((σ.1 b).2, .inl (va_cpy (σ.2.1 a) (σ.2.1 b) sp.toNatClampNeg dp.toNatClampNeg n.toNatClampNeg)))).heap = H.setIfInBounds b (vp_cell (Ca kd) ((σ.1 b).2, .inl (va_cpy (σ.2.1 a) (σ.2.1 b) sp.toNatClampNeg dp.toNatClampNeg n.toNatClampNeg))) := by rw [← hT]; rfl
  have oq : ∀ q : Nat, q ≠ b → (H.setIfInBounds b (vp_cell (Ca kd) ((σ.1 b).2, .inl (va_cpy (σ.2.1 a) (σ.2.1 b) sp.toNatClampNeg dp.toNatClampNeg n.toNatClampNeg))))[q]? = H[q]? := fun q hq => by simp [Array.getElem?_setIfInBounds, Ne.symm hq]
  obtain ⟨t, a1, b1⟩ := kk (H.setIfInBounds b (vp_cell (Ca kd) ((σ.1 b).2, .inl (va_cpy (σ.2.1 a) (σ.2.1 b) sp.toNatClampNeg dp.toNatClampNeg n.toNatClampNeg)))) _ ls (zH_upd h hBb.1 hbe2 (fun q hq => zcp_off hq) (by simp) (show (H.setIfInBounds b _)[b]? = some _ by simp [Array.getElem?_setIfInBounds, hlt]) oq) ⟨by simp; exact hS.1, fun q g1 g2 => by
      rw [oq q (fun e => g2 (by rw [e]; exact hBb.1))]
      exact hS.2.1 q g1 g2, fun q hq => by
      rcases List.mem_append.mp hq with h | h
      · exact hS.2.2 q h
      · obtain ⟨z, -, hz⟩ := List.mem_map.mp h
        rw [← hz]
        exact hBb.1⟩ hl _ hheap X'
  exact ⟨t, step t a1, b1⟩
theorem z_cI (C : zC p s m args meth c cc own nL D Ca B En) {index a b : Nat} {sp dp n : Int32} {FR LR : Nat} {τ : zS} (hv : zcI σ a sp b dp n = some τ) (hRm : zRm R FR LR cells slots) (hF : 1 ≤ FR) (hL : 64 ≤ LR) (hlink : Cond.methodLink own index arraycopyName ∈ zTb) (hnat : Cond.native arraycopyName ∈ zTb) (hstat : Cond.static arraycopyName ∈ zTb) (hini : Cond.initialized "java/lang/System" ∈ zTb)
    (hcat : (st.map fun v => v.category).sum ≤ 8) (hd : decode cc pc = .ok (.invokestatic index, 3)) (kk : zW p l e R s m args below meth c cells slots Q D Ca B nL τ N (pc + 3) (lv) (st)) : zW p l e R s m args below meth c cells slots Q D Ca B nL σ N (pc) (lv) (.int n :: .int dp :: .ref b :: .int sp :: .ref a :: st) := by
  unfold zcI at hv
  by_cases hk : (σ.1 a).1 = 1 ∧ (σ.1 b).1 = 1 ∧ ¬ sp < 0 ∧ ¬ dp < 0 ∧ ¬ n < 0 ∧ sp.toNatClampNeg + n.toNatClampNeg ≤ (σ.1 a).2 ∧ dp.toNatClampNeg + n.toNatClampNeg ≤ (σ.1 b).2
  · rw [if_pos hk] at hv
    cases hv
    obtain ⟨g1, g2, g3, g4, g5, g6, g7⟩ := hk
    refine z_copy (kd := 1) C hRm hF hL hlink hnat hstat hini (ty := .int) rfl ⟨0, rfl⟩ (zent_1 g1) (zent_1 g2) ?_ g3 g4 g5 g6 g7 (fun _ _ => rfl) hcat hd kk
    rw [zent_1 (show ((zcp σ a _ b _ _).1 b).1 = 1 from g2), zcp_at]
    rfl
  · rw [if_neg hk] at hv; cases hv
theorem z_cY (C : zC p s m args meth c cc own nL D Ca B En) {index a b : Nat} {sp dp n : Int32} {FR LR : Nat} {τ : zS} (hv : zcY σ a sp b dp n = some τ) (hRm : zRm R FR LR cells slots) (hF : 1 ≤ FR) (hL : 64 ≤ LR) (hlink : Cond.methodLink own index arraycopyName ∈ zTb) (hnat : Cond.native arraycopyName ∈ zTb) (hstat : Cond.static arraycopyName ∈ zTb) (hini : Cond.initialized "java/lang/System" ∈ zTb)
    (hcat : (st.map fun v => v.category).sum ≤ 8) (hd : decode cc pc = .ok (.invokestatic index, 3)) (kk : zW p l e R s m args below meth c cells slots Q D Ca B nL τ N (pc + 3) (lv) (st)) : zW p l e R s m args below meth c cells slots Q D Ca B nL σ N (pc) (lv) (.int n :: .int dp :: .ref b :: .int sp :: .ref a :: st) := by
  unfold zcY at hv
  by_cases hk : (σ.1 a).1 = 2 ∧ (σ.1 b).1 = 2 ∧ ¬ sp < 0 ∧ ¬ dp < 0 ∧ ¬ n < 0 ∧ sp.toNatClampNeg + n.toNatClampNeg ≤ (σ.1 a).2 ∧ dp.toNatClampNeg + n.toNatClampNeg ≤ (σ.1 b).2 ∧ (List.range n.toNatClampNeg).all (fun i => fits .byte (.int (σ.2.1 a (sp.toNatClampNeg + i)))) = true
  · rw [if_pos hk] at hv
    cases hv
    obtain ⟨g1, g2, g3, g4, g5, g6, g7, g8⟩ := hk
    refine z_copy (kd := 2) C hRm hF hL hlink hnat hstat hini (ty := .byte) rfl ⟨1, rfl⟩ (zent_2 g1) (zent_2 g2) ?_ g3 g4 g5 g6 g7 (fun i hi => List.all_eq_true.mp g8 i (List.mem_range.mpr hi)) hcat hd kk
    rw [zent_2 (show ((zcp σ a _ b _ _).1 b).1 = 2 from g2), zcp_at]
    rfl
  · rw [if_neg hk] at hv; cases hv
theorem z_ldc (C : zC p s m args meth c cc own nL D Ca B En) {index : Nat} {v : Int32} (hw : Cond.constant own index v ∈ zTb) (v2 : Int32) (hv2 : v2 = v) (hd : decode cc pc = .ok (.ldc index, 2)) (k : zW p l e R s m args below meth c cells slots Q D Ca B nL σ N (pc + 2) (lv) (.int v2 :: st)) : zW p l e R s m args below meth c cells slots Q D Ca B nL σ N (pc) (lv) (st) := by
  subst hv2
  exact fun H locs ls h hS hl => lv_ldc C.1 C.2.1 C.2.2.2.2.1 (C.2.2.2.1 _ hw) hd (k H locs ls h hS hl)
theorem z_ldcw (C : zC p s m args meth c cc own nL D Ca B En) {index : Nat} {v : Int32} (hw : Cond.constant own index v ∈ zTb) (v2 : Int32) (hv2 : v2 = v) (hd : decode cc pc = .ok (.ldc_w index, 3)) (k : zW p l e R s m args below meth c cells slots Q D Ca B nL σ N (pc + 3) (lv) (.int v2 :: st)) : zW p l e R s m args below meth c cells slots Q D Ca B nL σ N (pc) (lv) (st) := by
  subst hv2
  exact fun H locs ls h hS hl => lv_ldcw C.1 C.2.1 C.2.2.2.2.1 (C.2.2.2.1 _ hw) hd (k H locs ls h hS hl)
theorem z_ldc2 (C : zC p s m args meth c cc own nL D Ca B En) {index : Nat} {v : Int64} (hw : Cond.constantLong own index v ∈ zTb) (hd : decode cc pc = .ok (.ldc2_w index, 3)) (k : zW p l e R s m args below meth c cells slots Q D Ca B nL σ N (pc + 3) (lv) (.long v :: st)) : zW p l e R s m args below meth c cells slots Q D Ca B nL σ N (pc) (lv) (st) := fun H locs ls h hS hl => lv_ldc2 C.1 C.2.1 C.2.2.2.2.1 (C.2.2.2.1 _ hw) hd (k H locs ls h hS hl)
theorem z_ifnull (C : zC p s m args meth c cc own nL D Ca B En) {x : Nat} {off : Int} (hd : decode cc pc = .ok (.ifnull off, 3)) (k : zW p l e R s m args below meth c cells slots Q D Ca B nL σ N (pc + 3) (lv) (st)) : zW p l e R s m args below meth c cells slots Q D Ca B nL σ N (pc) (lv) (.ref x :: st) := fun H locs ls h hS hl => lv_ifnull C.1 C.2.1 hd (k H locs ls h hS hl)
theorem z_ifnonnull (C : zC p s m args meth c cc own nL D Ca B En) {x : Nat} {off : Int} (tgt : Nat) (hd : decode cc pc = .ok (.ifnonnull off, 3)) (ht : (pc : Int) + off = (tgt : Int)) (k : zW p l e R s m args below meth c cells slots Q D Ca B nL σ N (tgt) (lv) (st)) : zW p l e R s m args below meth c cells slots Q D Ca B nL σ N (pc) (lv) (.ref x :: st) := fun H locs ls h hS hl => lv_ifnonnull C.1 C.2.1 hd ht (k H locs ls h hS hl)
theorem z_ifnullN (C : zC p s m args meth c cc own nL D Ca B En) {off : Int} (tgt : Nat) (hd : decode cc pc = .ok (.ifnull off, 3)) (ht : (pc : Int) + off = (tgt : Int)) (k : zW p l e R s m args below meth c cells slots Q D Ca B nL σ N (tgt) (lv) (st)) : zW p l e R s m args below meth c cells slots Q D Ca B nL σ N (pc) (lv) (.null :: st) := fun H locs ls h hS hl => lv_ifnullN C.1 C.2.1 hd ht (k H locs ls h hS hl)
theorem z_ifnonnullN (C : zC p s m args meth c cc own nL D Ca B En) {off : Int} (hd : decode cc pc = .ok (.ifnonnull off, 3)) (k : zW p l e R s m args below meth c cells slots Q D Ca B nL σ N (pc + 3) (lv) (st)) : zW p l e R s m args below meth c cells slots Q D Ca B nL σ N (pc) (lv) (.null :: st) := fun H locs ls h hS hl => lv_ifnonnullN C.1 C.2.1 hd (k H locs ls h hS hl)
theorem z_mmin (C : zC p s m args meth c cc own nL D Ca B En) {index : Nat} {x y : Int32} {FR LR : Nat} (hRm : zRm R FR LR cells slots) (hF : 1 ≤ FR) (hL : 21 ≤ LR) (hlink : Cond.methodLink own index Lib.Math.min.name ∈ zTb) (hstat : Cond.static Lib.Math.min.name ∈ zTb) (hini : Cond.initialized "java/lang/Math" ∈ zTb) (hcode : Cond.code Lib.Math.min.name Lib.Math.min.code 2 (some .int) ∈ zTb) (hcat : (st.map fun v => v.category).sum ≤ 8) (hd : decode cc pc = .ok (.invokestatic index, 3)) (kk : zW p l e R s m args below meth c cells slots Q D Ca B nL σ N (pc + 3) (lv) (.int (if y < x then y else x) :: st)) : zW p l e R s m args below meth c cells slots Q D Ca B nL σ N (pc) (lv) (.int y :: .int x :: st) := fun H locs ls h hS hl =>
  va_mmin C.1 C.2.1 (C.2.2.1.trans hl.1.symm) C.2.2.2.2.1 (C.2.2.2.1 _ hlink) (C.2.2.2.1 _ hstat) (C.2.2.2.1 _ hini) (C.2.2.2.1 _ hcode) (Nat.le_trans hF hRm.1) (by have := Nat.le_trans hL hRm.2.1; omega) hRm.2.2.1 hRm.2.2.2 hd (kk H locs ls h hS hl)
theorem z_mmax (C : zC p s m args meth c cc own nL D Ca B En) {index : Nat} {x y : Int32} {FR LR : Nat} (hRm : zRm R FR LR cells slots) (hF : 1 ≤ FR) (hL : 21 ≤ LR) (hlink : Cond.methodLink own index Lib.Math.max.name ∈ zTb) (hstat : Cond.static Lib.Math.max.name ∈ zTb) (hini : Cond.initialized "java/lang/Math" ∈ zTb) (hcode : Cond.code Lib.Math.max.name Lib.Math.max.code 2 (some .int) ∈ zTb) (hcat : (st.map fun v => v.category).sum ≤ 8) (hd : decode cc pc = .ok (.invokestatic index, 3)) (kk : zW p l e R s m args below meth c cells slots Q D Ca B nL σ N (pc + 3) (lv) (.int (if x < y then y else x) :: st)) : zW p l e R s m args below meth c cells slots Q D Ca B nL σ N (pc) (lv) (.int y :: .int x :: st) := fun H locs ls h hS hl =>
  va_mmax C.1 C.2.1 (C.2.2.1.trans hl.1.symm) C.2.2.2.2.1 (C.2.2.2.1 _ hlink) (C.2.2.2.1 _ hstat) (C.2.2.2.1 _ hini) (C.2.2.2.1 _ hcode) (Nat.le_trans hF hRm.1) (by have := Nat.le_trans hL hRm.2.1; omega) hRm.2.2.1 hRm.2.2.2 hd (kk H locs ls h hS hl)
end ZR
