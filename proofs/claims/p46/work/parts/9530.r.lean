/-! ROWS for texts that are built: constants, private methods, calls with a made answer. -/
/-- an answer that is a cell, told by a predicate -/
def zMKr (l : Launch) (D : va_G) (Ca : Nat → ClassId) (B : Nat) (En : State → Prop) (y : MethodName) (bytes : ByteArray) (mL : Nat) (ret : Option FieldType) (F L mc ms : Nat) (as : List Value) (σ : zS) (N : Nat) (K : zS → Nat → Nat → Prop) : Prop :=
  Met l y (zWs y bytes mL ret) (zRoomN F L mc ms) (va_Pc as (zIn D Ca B En σ N)) (va_Qr (fun (u : zS × Nat × Nat) => K u.1 u.2.2 u.2.1 ∧ N ≤ u.2.1) (fun u a U => a = u.2.2 ∧ zIn D Ca B En u.1 u.2.1 U) (zA B)) mc ms (zA B)
def zMKw (l : Launch) (D : va_G) (Ca : Nat → ClassId) (B : Nat) (En : State → Prop) (y : MethodName) (bytes : ByteArray) (mL : Nat) (F L mc ms : Nat) (as : List Value) (σ : zS) (N : Nat) (K : zS → Nat → Prop) : Prop :=
  Met l y (zWs y bytes mL none) (zRoomN F L mc ms) (va_Pc as (zIn D Ca B En σ N)) (va_Qv (fun (u : zS × Nat) => K u.1 u.2 ∧ N ≤ u.2) (fun u => zIn D Ca B En u.1 u.2) (zA B)) mc ms (zA B)
theorem sb_sel {y : MethodName} {s : State} {args : Array Value} (hc : y.cls = "java/lang/AbstractStringBuilder") (hpriv : (Cond.privateMethod y).before args s = true) (hinst : (Cond.instanceMethod y).before args s = true) (h0 : (Cond.selects "java/lang/StringBuilder" ⟨"java/lang/AbstractStringBuilder", "isLatin1", "()Z"⟩ ⟨"java/lang/AbstractStringBuilder", "isLatin1", "()Z"⟩).before args s = true) : (Cond.selects "java/lang/StringBuilder" y y).before args s = true := by
  obtain ⟨c2, r2, m2, q1, q2, q3, q4, kP, hkP, hkPi⟩ := Cond.selects_spec h0
  obtain ⟨mk, methM, hnamed, hmethM, -, -⟩ := Cond.instanceMethod_spec hinst
  have hfound : s.methodFound? y.cls y.name y.desc = some mk := State.methodFound?_of_named hnamed (by rw [hc]; exact ⟨by decide +kernel, by decide +kernel⟩)
  have e1 := findClass_of_methodNamed hnamed
  have e2 := findClass_of_methodNamed q3
  rw [hc] at e1
  have hcls : mk.cls = m2.cls := Option.some.inj (e1.symm.trans e2)
  have hsel : selectMethod {} s.vm c2 mk = .method mk := selectMethod_private hmethM (Cond.privateMethod_at hpriv mk methM hnamed hmethM)
  simp only [Cond.before, Cond.holds, Cond.value, q1, hfound, hnamed, hsel, hcls, hkP]
  simp
  exact hkPi
section ZR
variable {p : Program} {l : Launch} {e : Env} {R : Room} {s : State} {m : MethodId} {args : Array Value} {below : List Frame} {meth : Method} {c : Code} {cells slots : Nat} {Q : State → Prop} {D : va_G} {Ca : Nat → ClassId} {B nL : Nat} {En : State → Prop} {cc : ByteArray} {own : String} {σ : zS} {N pc : Nat} {lv : List (Nat × Value)} {st : List Value}
theorem z_ldcS (C : zC p s m args meth c cc "BarrierFlowLaw" nL D Ca B En) (ev : zEv) (hZ : ∀ U : State, En U → zEnv ev B U) {index : Nat} (i : Nat) (hi : i < 10) (hx : zlIx.getD i 0 = index) (hd : decode cc pc = .ok (.ldc index, 2)) (k : zW p l e R s m args below meth c (cells) (slots) Q D Ca B nL σ (N) (pc + 2) (lv) (.ref (ev.2.1 (9 + i)) :: st)) : zW p l e R s m args below meth c (cells) (slots) Q D Ca B nL σ (N) (pc) (lv) (st) := fun H locs ls h hS hl => by
  subst hx
  exact va_ldcS C.1 C.2.1 C.2.2.2.2.1 ((hZ s C.2.2.2.2.2.2.1).2.2.2.2.2.2.2 i hi) hd (k H locs ls h hS hl)
theorem z_ineg (C : zC p s m args meth c cc own nL D Ca B En) {x : Int32} (hd : decode cc pc = .ok (.ineg, 1)) (k : zW p l e R s m args below meth c (cells) (slots) Q D Ca B nL σ (N) (pc + 1) (lv) (.int (-x) :: st)) : zW p l e R s m args below meth c (cells) (slots) Q D Ca B nL σ (N) (pc) (lv) (.int x :: st) := fun H locs ls h hS hl => lv_ineg C.1 C.2.1 hd (k H locs ls h hS hl)
theorem z_recvB (C : zC p s m args meth c cc own nL D Ca B En) {a : Nat} {H : Heap} (h : zH D Ca B σ N H) (hk : (σ.1 a).1 = 15) : ∃ cell : Cell, H[a]? = some cell ∧ cell.vm.isStatics = false ∧ s.vm.findClass "java/lang/StringBuilder" = some cell.cls := zRecv (k := 10) (q := (RS10, TS10, 4)) C h hk rfl
theorem z_classB (C : zC p s m args meth c cc own nL D Ca B En) : ∃ cC, ClassAt s "java/lang/StringBuilder" cC := by
  obtain ⟨-, hfc, kC, hkC, hkind⟩ := C.2.2.2.2.2.1.1 10 (RS10, TS10, 4) rfl
  exact ⟨_, hfc, kC, hkC, hkind⟩
theorem z_callBi (C : zC p s m args meth c cc own nL D Ca B En) {y : MethodName} {bytes : ByteArray} {mL F L F0 L0 index n b : Nat} {ret : Option FieldType} {As : List Value} {τ : zS} {r : Int32} {stk : List Value} (hM : zMi l D Ca B En y bytes mL ret F L (.ref b :: As) σ N τ r) (hRm : zRm R F0 L0 cells slots) (hk : (σ.1 b).1 = 15) (hcode : Cond.code y bytes mL ret ∈ zTb) (hini : Cond.initialized y.cls ∈ zTb) (hlink : Cond.methodLink own index y ∈ zTb) (hinst : Cond.instanceMethod y ∈ zTb) (hsel : (Cond.selects "java/lang/StringBuilder" y y).before args s = true) (hy : y.cls ≠ "java/lang/invoke/MethodHandle" ∧ y.cls ≠ "java/lang/invoke/VarHandle" ∧ (parseMethodDescriptor y.desc).map (fun d => d.parameters.length) = some n) (hF : F + 1 ≤ F0) (hL : 8 + (mL + 11) + L ≤ L0) (hn : As.length = n) (hstk : stk = As.reverse ++ .ref b :: st) (hcat : (st.map fun v => v.category).sum ≤ 8) (hd : decode cc pc = .ok (.invokevirtual index, 3)) (kk : zW p l e R s m args below meth c (cells) (slots) Q D Ca B nL τ (N) (pc + 3) (lv) (.int r :: st)) : zW p l e R s m args below meth c (cells) (slots) Q D Ca B nL σ (N) (pc) (lv) (stk) := by
  intro H locs ls h hS hl
  refine va_calli (va_runV (As := As) (rest := st) ⟨C.1, C.2.1, C.2.2.1, C.2.2.2.2.1, C.2.2.2.1⟩ hM ⟨zcB C hRm hcode hini hlink hy hF hL, C.2.2.2.1 _ hinst, hsel⟩ ⟨zBlind C.2.2.2.2.2.2.2.1, z_recvB C h hk, fun U hU hW => ⟨rfl, zIn_of C h hS hU hW⟩⟩ rfl hn hl.1 hstk (lv_room hcat) hd ⟨hRm.2.2.1, hRm.2.2.2⟩) hS (fun q _ h => h) (fun q h => h) (fun r2 u t H1 locs1 ht hvm hp hB hz hk1 hS1 => ?_)
  subst hp
  exact kk H1 locs1 ls (by rw [← ht]; exact hB.1) hS1 hl
theorem z_callBq (C : zC p s m args meth c cc own nL D Ca B En) {y : MethodName} {bytes : ByteArray} {mL F L F0 L0 index n b : Nat} {ret : Option FieldType} {As : List Value} {τ : zS} {r : Option Nat} {stk : List Value} (hM : zMq l D Ca B En y bytes mL ret F L (.ref b :: As) σ N τ r) (hRm : zRm R F0 L0 cells slots) (hk : (σ.1 b).1 = 15) (hcode : Cond.code y bytes mL ret ∈ zTb) (hini : Cond.initialized y.cls ∈ zTb) (hlink : Cond.methodLink own index y ∈ zTb) (hinst : Cond.instanceMethod y ∈ zTb) (hsel : (Cond.selects "java/lang/StringBuilder" y y).before args s = true) (hy : y.cls ≠ "java/lang/invoke/MethodHandle" ∧ y.cls ≠ "java/lang/invoke/VarHandle" ∧ (parseMethodDescriptor y.desc).map (fun d => d.parameters.length) = some n) (hF : F + 1 ≤ F0) (hL : 8 + (mL + 11) + L ≤ L0) (hn : As.length = n) (hstk : stk = As.reverse ++ .ref b :: st) (hcat : (st.map fun v => v.category).sum ≤ 8) (hd : decode cc pc = .ok (.invokevirtual index, 3)) (kk : zW p l e R s m args below meth c (cells) (slots) Q D Ca B nL τ (N) (pc + 3) (lv) (va_rf r :: st)) : zW p l e R s m args below meth c (cells) (slots) Q D Ca B nL σ (N) (pc) (lv) (stk) := by
  intro H locs ls h hS hl
  refine va_callq (va_runV (As := As) (rest := st) ⟨C.1, C.2.1, C.2.2.1, C.2.2.2.2.1, C.2.2.2.1⟩ hM ⟨zcB C hRm hcode hini hlink hy hF hL, C.2.2.2.1 _ hinst, hsel⟩ ⟨zBlind C.2.2.2.2.2.2.2.1, z_recvB C h hk, fun U hU hW => ⟨rfl, zIn_of C h hS hU hW⟩⟩ rfl hn hl.1 hstk (lv_room hcat) hd ⟨hRm.2.2.1, hRm.2.2.2⟩) hS (fun q _ h => h) (fun q h => h) (fun r2 u t H1 locs1 ht hvm hp hB hz hk1 hS1 => ?_)
  subst hp
  exact kk H1 locs1 ls (by rw [← ht]; exact hB.1) hS1 hl
theorem z_callBv (C : zC p s m args meth c cc own nL D Ca B En) {y : MethodName} {bytes : ByteArray} {mL F L F0 L0 index n b : Nat} {ret : Option FieldType} {As : List Value} {τ : zS} {r : Unit} {stk : List Value} (hM : zMv l D Ca B En y bytes mL ret F L (.ref b :: As) σ N τ r) (hRm : zRm R F0 L0 cells slots) (hk : (σ.1 b).1 = 15) (hcode : Cond.code y bytes mL ret ∈ zTb) (hini : Cond.initialized y.cls ∈ zTb) (hlink : Cond.methodLink own index y ∈ zTb) (hinst : Cond.instanceMethod y ∈ zTb) (hsel : (Cond.selects "java/lang/StringBuilder" y y).before args s = true) (hy : y.cls ≠ "java/lang/invoke/MethodHandle" ∧ y.cls ≠ "java/lang/invoke/VarHandle" ∧ (parseMethodDescriptor y.desc).map (fun d => d.parameters.length) = some n) (hF : F + 1 ≤ F0) (hL : 8 + (mL + 11) + L ≤ L0) (hn : As.length = n) (hstk : stk = As.reverse ++ .ref b :: st) (hcat : (st.map fun v => v.category).sum ≤ 8) (hd : decode cc pc = .ok (.invokevirtual index, 3)) (kk : zW p l e R s m args below meth c (cells) (slots) Q D Ca B nL τ (N) (pc + 3) (lv) (st)) : zW p l e R s m args below meth c (cells) (slots) Q D Ca B nL σ (N) (pc) (lv) (stk) := by
  intro H locs ls h hS hl
  refine va_callv (va_runV (As := As) (rest := st) ⟨C.1, C.2.1, C.2.2.1, C.2.2.2.2.1, C.2.2.2.1⟩ hM ⟨zcB C hRm hcode hini hlink hy hF hL, C.2.2.2.1 _ hinst, hsel⟩ ⟨zBlind C.2.2.2.2.2.2.2.1, z_recvB C h hk, fun U hU hW => ⟨rfl, zIn_of C h hS hU hW⟩⟩ rfl hn hl.1 hstk (lv_room hcat) hd ⟨hRm.2.2.1, hRm.2.2.2⟩) hS (fun q _ h => h) (fun q h => h) (fun u t H1 locs1 ht hvm hp hB hz hk1 hS1 => ?_)
  skip
  exact kk H1 locs1 ls (by rw [← ht]; exact hB.1) hS1 hl
theorem z_callBU (C : zC p s m args meth c cc own nL D Ca B En) {x y : MethodName} {bytes b0 : ByteArray} {mL m0 F L F0 L0 index n b : Nat} {ret r0 : Option FieldType} {As : List Value} {τ : zS} {r : Int32} {stk : List Value} (hM : zMi l D Ca B En y bytes mL ret F L (.ref b :: As) σ N τ r) (hRm : zRm R F0 L0 cells slots) (hk : (σ.1 b).1 = 15) (hcode : Cond.code y bytes mL ret ∈ zTb) (h0 : Cond.code ⟨"java/lang/AbstractStringBuilder", x.name, x.desc⟩ b0 m0 r0 ∈ zTb) (hws : GoodIn zTb (va_wsO own index "java/lang/StringBuilder" "java/lang/AbstractStringBuilder" x y (zWs y bytes mL ret))) (hpx : (parseMethodDescriptor x.desc).map (fun d => d.parameters.length) = some n) (hF : F + 1 ≤ F0) (hL : 8 + (mL + 11) + L ≤ L0) (hn : As.length = n) (hstk : stk = As.reverse ++ .ref b :: st) (hcat : (st.map fun v => v.category).sum ≤ 8) (hd : decode cc pc = .ok (.invokevirtual index, 3)) (kk : zW p l e R s m args below meth c (cells) (slots) Q D Ca B nL τ (N) (pc + 3) (lv) (.int r :: st)) : zW p l e R s m args below meth c (cells) (slots) Q D Ca B nL σ (N) (pc) (lv) (stk) := by
  intro H locs ls h hS hl
  refine va_calli (va_runU (x := x) (owner := "java/lang/AbstractStringBuilder") (As := As) (rest := st) ⟨C.1, C.2.1, C.2.2.1, C.2.2.2.2.1, C.2.2.2.1⟩ hM (va_cwO n C.2.2.2.1 hws rfl rfl rfl h0 ⟨by decide +kernel, by decide +kernel, hpx⟩ ⟨Nat.le_trans hF hRm.1, Nat.le_trans hL hRm.2.1⟩) ⟨zBlind C.2.2.2.2.2.2.2.1, z_recvB C h hk, fun U hU hW => ⟨rfl, zIn_of C h hS hU hW⟩⟩ rfl hn hl.1 hstk (lv_room hcat) hd ⟨hRm.2.2.1, hRm.2.2.2⟩) hS (fun q _ h => h) (fun q h => h) (fun r2 u t H1 locs1 ht hvm hp hB hz hk1 hS1 => ?_)
  subst hp
  exact kk H1 locs1 ls (by rw [← ht]; exact hB.1) hS1 hl
theorem z_callBr (C : zC p s m args meth c cc own nL D Ca B En) {y : MethodName} {bytes : ByteArray} {mL F L mc ms index n b : Nat} {ret : Option FieldType} {As : List Value} {K : zS → Nat → Nat → Prop} {stk : List Value} (hM : zMKr l D Ca B En y bytes mL ret F L mc ms (.ref b :: As) σ N K) (hcode : Cond.code y bytes mL ret ∈ zTb) (hini : Cond.initialized y.cls ∈ zTb) (hlink : Cond.methodLink own index y ∈ zTb) (hk : (σ.1 b).1 = 15) (hinst : Cond.instanceMethod y ∈ zTb) (hsel : (Cond.selects "java/lang/StringBuilder" y y).before args s = true) (hy : y.cls ≠ "java/lang/invoke/MethodHandle" ∧ y.cls ≠ "java/lang/invoke/VarHandle" ∧ (parseMethodDescriptor y.desc).map (fun d => d.parameters.length) = some n) (hF : F + 1 ≤ R.frames) (hL : 8 + (mL + 11) + L ≤ R.locals) (hn : As.length = n) (hstk : stk = As.reverse ++ .ref b :: st) (hcat : (st.map fun v => v.category).sum ≤ 8) (hd : decode cc pc = .ok (.invokevirtual index, 3)) (h1 : cells + mc ≤ R.cells) (h6 : slots + ms ≤ R.slots) (kk : ∀ (τ : zS) (r N2 : Nat), K τ r N2 → N ≤ N2 → zW p l e R s m args below meth c (cells + mc) (slots + ms) Q D Ca B nL τ (N2) (pc + 3) (lv) (.ref r :: st)) : zW p l e R s m args below meth c (cells) (slots) Q D Ca B nL σ (N) (pc) (lv) (stk) := by
  intro H locs ls h hS hl
  refine va_callr (va_runV (As := As) (rest := st) ⟨C.1, C.2.1, C.2.2.1, C.2.2.2.2.1, C.2.2.2.1⟩ hM ⟨callB_of n C.2.2.2.1 (zGood hcode) rfl rfl rfl (C.2.2.2.1 _ hini) (C.2.2.2.1 _ hlink) hy ⟨hF, hL⟩, C.2.2.2.1 _ hinst, hsel⟩ ⟨zBlind C.2.2.2.2.2.2.2.1, z_recvB C h hk, fun U hU hW => ⟨rfl, zIn_of C h hS hU hW⟩⟩ rfl hn hl.1 hstk (lv_room hcat) hd ⟨h1, h6⟩) hS (fun q _ h => h) (fun q h => h) (fun u ra t H1 locs1 ht hvm hp hB hz hk1 hS1 => ?_)
  obtain ⟨e9, hB⟩ := hB
  subst e9
  exact kk u.1 u.2.2 u.2.1 hp.1 hp.2 H1 locs1 ls (by rw [← ht]; exact hB.1) hS1 hl
theorem z_callBw (C : zC p s m args meth c cc own nL D Ca B En) {y : MethodName} {bytes : ByteArray} {mL F L mc ms index n b : Nat} {As : List Value} {K : zS → Nat → Prop} {stk : List Value} (hM : zMKw l D Ca B En y bytes mL F L mc ms (.ref b :: As) σ N K) (hcode : Cond.code y bytes mL none ∈ zTb) (hini : Cond.initialized y.cls ∈ zTb) (hlink : Cond.methodLink own index y ∈ zTb) (hk : (σ.1 b).1 = 15) (hinst : Cond.instanceMethod y ∈ zTb) (hsel : (Cond.selects "java/lang/StringBuilder" y y).before args s = true) (hy : y.cls ≠ "java/lang/invoke/MethodHandle" ∧ y.cls ≠ "java/lang/invoke/VarHandle" ∧ (parseMethodDescriptor y.desc).map (fun d => d.parameters.length) = some n) (hF : F + 1 ≤ R.frames) (hL : 8 + (mL + 11) + L ≤ R.locals) (hn : As.length = n) (hstk : stk = As.reverse ++ .ref b :: st) (hcat : (st.map fun v => v.category).sum ≤ 8) (hd : decode cc pc = .ok (.invokevirtual index, 3)) (h1 : cells + mc ≤ R.cells) (h6 : slots + ms ≤ R.slots) (kk : ∀ (τ : zS) (N2 : Nat), K τ N2 → N ≤ N2 → zW p l e R s m args below meth c (cells + mc) (slots + ms) Q D Ca B nL τ (N2) (pc + 3) (lv) (st)) : zW p l e R s m args below meth c (cells) (slots) Q D Ca B nL σ (N) (pc) (lv) (stk) := by
  intro H locs ls h hS hl
  refine va_callv (va_runV (As := As) (rest := st) ⟨C.1, C.2.1, C.2.2.1, C.2.2.2.2.1, C.2.2.2.1⟩ hM ⟨callB_of n C.2.2.2.1 (zGood hcode) rfl rfl rfl (C.2.2.2.1 _ hini) (C.2.2.2.1 _ hlink) hy ⟨hF, hL⟩, C.2.2.2.1 _ hinst, hsel⟩ ⟨zBlind C.2.2.2.2.2.2.2.1, z_recvB C h hk, fun U hU hW => ⟨rfl, zIn_of C h hS hU hW⟩⟩ rfl hn hl.1 hstk (lv_room hcat) hd ⟨h1, h6⟩) hS (fun q _ h => h) (fun q h => h) (fun u t H1 locs1 ht hvm hp hB hz hk1 hS1 => ?_)
  skip
  skip
  exact kk u.1 u.2 hp.1 hp.2 H1 locs1 ls (by rw [← ht]; exact hB.1) hS1 hl
theorem z_callSr (C : zC p s m args meth c cc own nL D Ca B En) {y : MethodName} {bytes : ByteArray} {mL F L mc ms index n : Nat} {ret : Option FieldType} {As : List Value} {K : zS → Nat → Nat → Prop} {stk : List Value} (hM : zMKr l D Ca B En y bytes mL ret F L mc ms As σ N K) (hcode : Cond.code y bytes mL ret ∈ zTb) (hini : Cond.initialized y.cls ∈ zTb) (hlink : Cond.methodLink own index y ∈ zTb) (hstat : Cond.static y ∈ zTb) (hy : y.cls ≠ "java/lang/invoke/MethodHandle" ∧ y.cls ≠ "java/lang/invoke/VarHandle" ∧ (parseMethodDescriptor y.desc).map (fun d => d.parameters.length) = some n) (hF : F + 1 ≤ R.frames) (hL : 8 + (mL + 11) + L ≤ R.locals) (hn : As.length = n) (hstk : stk = As.reverse ++ st) (hcat : (st.map fun v => v.category).sum ≤ 8) (hd : decode cc pc = .ok (.invokestatic index, 3)) (h1 : cells + mc ≤ R.cells) (h6 : slots + ms ≤ R.slots) (kk : ∀ (τ : zS) (r N2 : Nat), K τ r N2 → N ≤ N2 → zW p l e R s m args below meth c (cells + mc) (slots + ms) Q D Ca B nL τ (N2) (pc + 3) (lv) (.ref r :: st)) : zW p l e R s m args below meth c (cells) (slots) Q D Ca B nL σ (N) (pc) (lv) (stk) := by
  intro H locs ls h hS hl
  refine va_callr (va_runS (As := As) (rest := st) ⟨C.1, C.2.1, C.2.2.1, C.2.2.2.2.1, C.2.2.2.1⟩ hM ⟨callB_of n C.2.2.2.1 (zGood hcode) rfl rfl rfl (C.2.2.2.1 _ hini) (C.2.2.2.1 _ hlink) hy ⟨hF, hL⟩, C.2.2.2.1 _ hstat⟩ ⟨zBlind C.2.2.2.2.2.2.2.1, fun U hU hW => ⟨rfl, zIn_of C h hS hU hW⟩⟩ rfl hn hl.1 hstk (lv_room hcat) hd ⟨h1, h6⟩) hS (fun q _ h => h) (fun q h => h) (fun u ra t H1 locs1 ht hvm hp hB hz hk1 hS1 => ?_)
  obtain ⟨e9, hB⟩ := hB
  subst e9
  exact kk u.1 u.2.2 u.2.1 hp.1 hp.2 H1 locs1 ls (by rw [← ht]; exact hB.1) hS1 hl
theorem z_callIw (C : zC p s m args meth c cc own nL D Ca B En) {y : MethodName} {bytes : ByteArray} {mL F L mc ms index n b : Nat} {As : List Value} {K : zS → Nat → Prop} {stk : List Value} (hM : zMKw l D Ca B En y bytes mL F L mc ms (.ref b :: As) σ N K) (hcode : Cond.code y bytes mL none ∈ zTb) (hini : Cond.initialized y.cls ∈ zTb) (hlink : Cond.methodLink own index y ∈ zTb) (hnm : y.name = "<init>") (hinst : Cond.instanceMethod y ∈ zTb) (hy : y.cls ≠ "java/lang/invoke/MethodHandle" ∧ y.cls ≠ "java/lang/invoke/VarHandle" ∧ (parseMethodDescriptor y.desc).map (fun d => d.parameters.length) = some n) (hF : F + 1 ≤ R.frames) (hL : 8 + (mL + 11) + L ≤ R.locals) (hn : As.length = n) (hstk : stk = As.reverse ++ .ref b :: st) (hcat : (st.map fun v => v.category).sum ≤ 8) (hd : decode cc pc = .ok (.invokespecial index, 3)) (h1 : cells + mc ≤ R.cells) (h6 : slots + ms ≤ R.slots) (kk : ∀ (τ : zS) (N2 : Nat), K τ N2 → N ≤ N2 → zW p l e R s m args below meth c (cells + mc) (slots + ms) Q D Ca B nL τ (N2) (pc + 3) (lv) (st)) : zW p l e R s m args below meth c (cells) (slots) Q D Ca B nL σ (N) (pc) (lv) (stk) := by
  intro H locs ls h hS hl
  refine va_callv (va_runI (As := As) (rest := st) ⟨C.1, C.2.1, C.2.2.1, C.2.2.2.2.1, C.2.2.2.1⟩ hM ⟨callB_of n C.2.2.2.1 (zGood hcode) rfl rfl rfl (C.2.2.2.1 _ hini) (C.2.2.2.1 _ hlink) hy ⟨hF, hL⟩, hnm, C.2.2.2.1 _ hinst⟩ ⟨zBlind C.2.2.2.2.2.2.2.1, fun U hU hW => ⟨rfl, zIn_of C h hS hU hW⟩⟩ rfl hn hl.1 hstk (lv_room hcat) hd ⟨h1, h6⟩) hS (fun q _ h => h) (fun q h => h) (fun u t H1 locs1 ht hvm hp hB hz hk1 hS1 => ?_)
  skip
  skip
  exact kk u.1 u.2 hp.1 hp.2 H1 locs1 ls (by rw [← ht]; exact hB.1) hS1 hl
theorem z_callUr (C : zC p s m args meth c cc own nL D Ca B En) {y : MethodName} {bytes : ByteArray} {mL F L mc ms index n b : Nat} {ret : Option FieldType} {As : List Value} {K : zS → Nat → Nat → Prop} {stk : List Value} (hM : zMKr l D Ca B En y bytes mL ret F L mc ms (.ref b :: As) σ N K) (hk : (σ.1 b).1 = 15) (hws : GoodIn zTb (va_wsSU own index y (zWs y bytes mL ret))) (hy : y.name ≠ "<init>" ∧ (parseMethodDescriptor y.desc).map (fun d => d.parameters.length) = some n) (hF : F + 1 ≤ R.frames) (hL : 8 + (mL + 11) + L ≤ R.locals) (hn : As.length = n) (hstk : stk = As.reverse ++ .ref b :: st) (hcat : (st.map fun v => v.category).sum ≤ 8) (hd : decode cc pc = .ok (.invokespecial index, 3)) (h1 : cells + mc ≤ R.cells) (h6 : slots + ms ≤ R.slots) (kk : ∀ (τ : zS) (r N2 : Nat), K τ r N2 → N ≤ N2 → zW p l e R s m args below meth c (cells + mc) (slots + ms) Q D Ca B nL τ (N2) (pc + 3) (lv) (.ref r :: st)) : zW p l e R s m args below meth c (cells) (slots) Q D Ca B nL σ (N) (pc) (lv) (stk) := by
  intro H locs ls h hS hl
  obtain ⟨cC, hat⟩ := z_classB C
  refine va_callr (va_runSU (C := "java/lang/StringBuilder") (As := As) (rest := st) hat ⟨C.1, C.2.1, C.2.2.1, C.2.2.2.2.1, C.2.2.2.1⟩ hM (va_cwSU n C.2.2.2.1 hws rfl rfl rfl hy ⟨hF, hL⟩) ⟨zBlind C.2.2.2.2.2.2.2.1, z_recvB C h hk, fun U hU hW => ⟨rfl, zIn_of C h hS hU hW⟩⟩ rfl hn hl.1 hstk (lv_room hcat) hd ⟨h1, h6⟩) hS (fun q _ h => h) (fun q h => h) (fun u ra t H1 locs1 ht hvm hp hB hz hk1 hS1 => ?_)
  obtain ⟨e9, hB⟩ := hB
  subst e9
  exact kk u.1 u.2.2 u.2.1 hp.1 hp.2 H1 locs1 ls (by rw [← ht]; exact hB.1) hS1 hl
theorem zfin_Kr (C : zC p s m args meth c cc own nL D Ca B En) {K : zS → Nat → Nat → Prop} {r N0 mc ms : Nat} {rt : FieldType} (hK : K σ r N) (hr : meth.sig.returnType = some rt) (hrt : (∃ n, rt = .object n) ∨ ∃ t, rt = .array t) (hN : N0 ≤ N) (hc : cells ≤ mc) (hs : slots ≤ ms) (hd : decode cc pc = .ok (.areturn, 1)) : zW p l e R s m args below meth c cells slots (MQ below (va_Qr (fun (u : zS × Nat × Nat) => K u.1 u.2.2 u.2.1 ∧ N0 ≤ u.2.1) (fun u a U => a = u.2.2 ∧ zIn D Ca B En u.1 u.2.1 U) (zA B)) args s mc ms (zA B)) D Ca B nL σ N pc lv [.ref r] := fun H locs ls h hS hl =>
  W.widen hc hs (W.aret C.1 C.2.1 hr hrt (Or.inr ⟨r, rfl⟩) (fun t ht hW => ⟨⟨(σ, N, r), r, rfl, ⟨hK, hN⟩, rfl, zIn_of C h hS ht hW⟩, hS.F ht⟩) hS.2.2 hd C.2.2.2.2.2.2.2.2.2.1)
theorem zfin_Kw (C : zC p s m args meth c cc own nL D Ca B En) {K : zS → Nat → Prop} {N0 mc ms : Nat} (hK : K σ N) (hr : meth.sig.returnType = none) (hN : N0 ≤ N) (hc : cells ≤ mc) (hs : slots ≤ ms) (hd : decode cc pc = .ok (.return_, 1)) : zW p l e R s m args below meth c cells slots (MQ below (va_Qv (fun (u : zS × Nat) => K u.1 u.2 ∧ N0 ≤ u.2) (fun u => zIn D Ca B En u.1 u.2) (zA B)) args s mc ms (zA B)) D Ca B nL σ N pc lv [] := fun H locs ls h hS hl =>
  W.widen hc hs (W.vret C.1 C.2.1 hr (fun t ht hW => ⟨⟨(σ, N), rfl, ⟨hK, hN⟩, zIn_of C h hS ht hW⟩, hS.F ht⟩) hS.2.2 hd C.2.2.2.2.2.2.2.2.2.1)
/-- a whole number or a cell is put into a field that is set in constructors alone -/
theorem z_putFv (C : zC p s m args meth c cc own nL D Ca B En) (hini : meth.name = "<init>") {Cn ref : String} {T : u_T} {Nf k j index a : Nat} {τ : zS} {v : Value} {cn : FieldType} (hc : vwCl[k]? = some (Cn, T, Nf)) (hN : Nf = znf k) (hin : ∀ w ∈ u_ws Cn T Nf, w ∈ zTb) (hj : j < Nf) (hlink : Cond.fieldLink own index ref (T j).2.1 (T j).2.2.1 ∈ zTb) (href : (T j).1 = ref) (ty0 : Nat → FieldType) (hty : ∀ k, k < Nf → parseFieldDescriptor (T k).2.2.1 = some (ty0 k)) (hnm : ∀ a, a < Nf → ∀ b, b < Nf → a ≠ b → (T a).2.1 ≠ (T b).2.1) (hfin : (T j).2.2.2 = true) (hdecl : (T j).1 = own) (hdd : parseFieldDescriptor (T j).2.2.1 = some cn) (hnar : narrow cn v = v) (hfit : fits cn v = true) (hk : (σ.1 a).1 = k + 5) (hk2 : (τ.1 a).1 = k + 5) (hset : zfs k τ a = (zfs k σ a).set j v) (hoff : ∀ b, b ≠ a → zent Ca τ b = zent Ca σ b) (hd : decode cc pc = .ok (.putfield index, 3)) (kk : zW p l e R s m args below meth c (cells) (slots) Q D Ca B nL τ (N) (pc + 3) (lv) (st)) : zW p l e R s m args below meth c (cells) (slots) Q D Ca B nL σ (N) (pc) (lv) (v :: .ref a :: st) := by
  intro H locs ls h hS hl
  have hat := h.2.2 a _ (zent_obj hk)
  have hap := va_apart (own := own) C.2.2.2.1 hin ty0 hty hnm C.2.2.2.2.2.1 hc
  obtain ⟨r, h1, cell, q1, q2, q3, q4⟩ := hat.2
  have hr9 : r = (Cn, T, Nf) := Option.some.inj (h1.symm.trans hc)
  subst hr9
  obtain ⟨hSl, hfc, kC, hkC, hkind⟩ := C.2.2.2.2.2.1.1 k _ hc
  obtain ⟨cf, kf, fi, f, hi, hsl⟩ := hSl j hj
  have hlay := C.2.2.2.1 _ (hin _ (u_in_lay hj))
  unfold u_lay at hlay
  rw [if_pos hfin] at hlay
  have hst := (u_facts hfc hkC (u_lays C.2.2.2.1 hin hj) hi).1
  have hcf : m.cls = cf := by
    obtain ⟨_, _, c', _, _, _, -, -, hf', -, -, -, hown2, -⟩ := Cond.laysFinal_spec hlay
    have e1 : c' = cf := by have := hi.symm.trans hf'; simp at this; exact this.1.symm
    rw [hdecl] at hown2
    rw [← e1]; exact Option.some.inj (C.2.2.2.2.1.symm.trans hown2)
  have h6 := u_fits hfc hkC hkind (Or.inr hlay) hi hdd hnar hfit
  subst href
  refine W.putFinK C.1 C.2.1 C.2.2.2.2.1 (C.2.2.2.1 _ hlink) hi hst hcf hini (by rw [q2]; exact h6) q1 q3 (by rw [hsl]; exact k2_hasslot (q4 j hj)) rfl rfl hd fun H' e1 e2 e3 => ?_
  rw [hsl] at e1 ⊢
  refine kk H' _ ls (zH_upd h hat.1 (zent_obj hk2) hoff e2 ?_ e3) (zS_upd hS e2 e3 hat.1) hl
  refine ⟨_, hc, t_OB.to (V := updV (vp_V (zfs k σ a)) j v) ⟨_, e1, q2, q3, t_set q4 hap hj _⟩ (fun i _ => ?_)⟩
  rw [hset]
  exact vp_updV_set (by rw [zfs_len, ← hN]; exact hj) _ i
/-- a constant's bytes are copied into a row -/
def zcpT (σ : zS) (f : Nat → Int32) (b dp n : Nat) : zS := (σ.1, (fun q => if q = b then va_cpy f (σ.2.1 b) 0 dp n else σ.2.1 q), σ.2.2)
theorem z_copyT (C : zC p s m args meth c cc own nL D Ca B En) (ev : zEv) (hZ : ∀ U : State, En U → zEnv ev B U) {index b t : Nat} {dp n : Int32} (hF : 1 ≤ R.frames) (hL : 64 ≤ R.locals) (hlink : Cond.methodLink own index arraycopyName ∈ zTb) (hnat : Cond.native arraycopyName ∈ zTb) (hstat : Cond.static arraycopyName ∈ zTb) (hini : Cond.initialized "java/lang/System" ∈ zTb)
    (ht9 : t < 19) (hb2 : (σ.1 b).1 = 2) (h2 : ¬ dp < 0) (h3 : ¬ n < 0) (h4 : 0 + n.toNatClampNeg ≤ zsLen.getD t 0) (h5 : dp.toNatClampNeg + n.toNatClampNeg ≤ (σ.1 b).2) (hfit : ∀ i, i < n.toNatClampNeg → fits .byte (.int ((zsByt.getD t []).getD (0 + i) 0)) = true)
    (hcat : (st.map fun v => v.category).sum ≤ 8) (hd : decode cc pc = .ok (.invokestatic index, 3)) (kk : zW p l e R s m args below meth c (cells) (slots) Q D Ca B nL (zcpT σ (fun j => (zsByt.getD t []).getD j 0) b dp.toNatClampNeg n.toNatClampNeg) (N) (pc + 3) (lv) (st)) : zW p l e R s m args below meth c (cells) (slots) Q D Ca B nL σ (N) (pc) (lv) (.int n :: .int dp :: .ref b :: .int (zi 0) :: .ref (ev.2.2.1 t) :: st) := by
  have nn : ∀ z : Int32, ¬ z < 0 → z.toInt = (z.toNatClampNeg : Int) := by
    intro z hz
    have hz0 : (0 : Int) ≤ z.toInt := by
      have := Int32.not_lt.mp hz
      simpa using Int32.le_iff_toInt_le.mp this
    show z.toInt = ((z.toInt.toNat : Nat) : Int)
    omega
  intro H locs ls h hS hl T hT X
  have E := hZ s C.2.2.2.2.2.2.1
  obtain ⟨scr, hs1, hs2, hs3, hs4, -, hs5, hs7⟩ := (E.2.2.2.2.1.1 t ht9).2.2.2
  have hbe := zent_2 (Ca := Ca) hb2
  have hBb := h.2.2 b _ hbe
  have hc0 : H[ev.2.2.1 t]? = some scr := by rw [hS.2.1 _ (Array.getElem?_eq_some_iff.mp hs1).1 hs7]; exact hs1
  have hc1 : H[b]? = some (vp_cell (Ca 2) ((σ.1 b).2, .inl (σ.2.1 b))) := hBb.2
  obtain ⟨hs6, k0, hk0, cm0, hkk0⟩ := hs2
  obtain ⟨-, k1, hk1, cm1, hkk1⟩ := (C.2.2.2.2.2.1.2 1 _ rfl).1 (σ.1 b).2 (fun j => .int (σ.2.1 b j))
  obtain ⟨vm', X', step⟩ := X.arraycopy C.1 C.2.2.2.2.1 (C.2.2.2.1 _ hlink) (C.2.2.2.1 _ hnat) (C.2.2.2.1 _ hstat) (C.2.2.2.1 _ hini) (src := ev.2.2.1 t) (dst := b) (cs := scr) (cd := vp_cell (Ca 2) ((σ.1 b).2, .inl (σ.2.1 b))) (srcPos := zi 0) (destPos := dp) (n := n) (by rw [hT]; exact hc0) (by rw [hT]; exact hc1)
    hs6 (fun _ h => by cases h) hs3 (fun h => by cases h) hk0 hk1 hkk0 hkk1 (by simp [refKind]) (by decide) h2 h3
    (by rw [nn (zi 0) (by decide), nn n h3, show (zi 0).toNatClampNeg = 0 by decide]; omega)
    (by rw [nn dp h2, nn n h3]; show ¬ _ > ((arrV (Ca 2) (σ.1 b).2 (fun j => .int (σ.2.1 b j))).slots.size : Int); rw [arrV_size]; omega)
    (fun vm₁ _ i hi => by
      rw [show (zi 0).toNatClampNeg = 0 by decide]
      have e : scr.slots.getD (0 + i) .null = .int ((zsByt.getD t []).getD (0 + i) 0) := by
        rw [Array.getD_eq_getD_getElem?, hs5 _ (by omega)]
        rfl
      refine ⟨?_, ?_⟩
      · rw [e]
        exact hfit i hi
      · rw [e]
        exact trivial)
    (g := F0 m pc ls (.int n :: .int dp :: .ref b :: .int (zi 0) :: .ref (ev.2.2.1 t) :: st)) rfl (hl.1.trans C.2.2.1.symm) (rest := st) rfl (by rw [C.2.1]; exact hd) hF (by
      have e : nativeFrameWords "java/lang/System" "arraycopy" 5 + 11 ≤ 56 := by decide +kernel
      show 2 * 0 + _ + _ ≤ _
      omega)
  have e1 : copied scr (vp_cell (Ca 2) ((σ.1 b).2, .inl (σ.2.1 b))) (zi 0) dp n = vp_cell (Ca 2) ((σ.1 b).2, .inl (va_cpy (fun j => (zsByt.getD t []).getD j 0) (σ.2.1 b) 0 dp.toNatClampNeg n.toNatClampNeg)) := by
    have e8 : copied scr (vp_cell (Ca 2) ((σ.1 b).2, .inl (σ.2.1 b))) (zi 0) dp n = vp_cell (Ca 2) ((σ.1 b).2, .inl (va_cpy (fun j => (zsByt.getD t []).getD j 0) (σ.2.1 b) (zi 0).toNatClampNeg dp.toNatClampNeg n.toNatClampNeg)) := va_copiedX (fun z => .int z) scr (Ca 2) (fun j => (zsByt.getD t []).getD j 0) (σ.2.1 b) hs5 (by rw [show (zi 0).toNatClampNeg = 0 by decide]; exact h4)
    rw [show (zi 0).toNatClampNeg = 0 by decide] at e8
    exact e8
  rw [e1] at X' step
  have hlt : b < H.size := (Array.getElem?_eq_some_iff.mp hc1).1
  have hbe2 : zent Ca (zcpT σ (fun j => (zsByt.getD t []).getD j 0) b dp.toNatClampNeg n.toNatClampNeg) b = some (.inl (Ca 2, (σ.1 b).2, .inl (va_cpy (fun j => (zsByt.getD t []).getD j 0) (σ.2.1 b) 0 dp.toNatClampNeg n.toNatClampNeg))) := by
    rw [zent_2 (show ((zcpT σ _ b _ _).1 b).1 = 2 from hb2)]
    have : (zcpT σ (fun j => (zsByt.getD t []).getD j 0) b dp.toNatClampNeg n.toNatClampNeg).2.1 b = va_cpy (fun j => (zsByt.getD t []).getD j 0) (σ.2.1 b) 0 dp.toNatClampNeg n.toNatClampNeg := if_pos rfl
    rw [this]
    rfl
  have hheap : ((T.setVm vm').setCell b (vp_cell (Ca 2) ((σ.1 b).2, .inl (va_cpy (fun j => (zsByt.getD t []).getD j 0) (σ.2.1 b) 0 dp.toNatClampNeg n.toNatClampNeg)))).heap = H.setIfInBounds b (vp_cell (Ca 2) ((σ.1 b).2, .inl (va_cpy (fun j => (zsByt.getD t []).getD j 0) (σ.2.1 b) 0 dp.toNatClampNeg n.toNatClampNeg))) := by rw [← hT]; rfl
  have oq : ∀ q : Nat, q ≠ b → (H.setIfInBounds b (vp_cell (Ca 2) ((σ.1 b).2, .inl (va_cpy (fun j => (zsByt.getD t []).getD j 0) (σ.2.1 b) 0 dp.toNatClampNeg n.toNatClampNeg))))[q]? = H[q]? := fun q hq => by simp [Array.getElem?_setIfInBounds, Ne.symm hq]
  obtain ⟨t2, a1, b1⟩ := kk (H.setIfInBounds b (vp_cell (Ca 2) ((σ.1 b).2, .inl (va_cpy (fun j => (zsByt.getD t []).getD j 0) (σ.2.1 b) 0 dp.toNatClampNeg n.toNatClampNeg)))) _ ls (zH_upd h hBb.1 hbe2 (fun q hq => zent_off rfl (if_neg hq) rfl rfl) (by simp) (show (H.setIfInBounds b _)[b]? = some _ by simp [Array.getElem?_setIfInBounds, hlt]) oq) ⟨by simp; exact hS.1, fun q g1 g2 => by
      rw [oq q (fun e => g2 (by rw [e]; exact hBb.1))]
      exact hS.2.1 q g1 g2, fun q hq => by
      rcases List.mem_append.mp hq with h | h
      · exact hS.2.2 q h
      · obtain ⟨z, -, hz⟩ := List.mem_map.mp h
        rw [← hz]
        exact hBb.1⟩ hl _ hheap X'
  exact ⟨t2, step t2 a1, b1⟩
/-- a row is cloned -/
theorem z_clone (C : zC p s m args meth c cc own nL D Ca B En) {index a n9 : Nat} (hlink : Cond.methodLink own index ⟨"[B", "clone", "()Ljava/lang/Object;"⟩ ∈ zTb) (hsame : Cond.sameMethod "[B" "java/lang/Object" "clone" "()Ljava/lang/Object;" ∈ zTb) (hnat : Cond.native ⟨"java/lang/Object", "clone", "()Ljava/lang/Object;"⟩ ∈ zTb) (hinst : Cond.instanceMethod ⟨"java/lang/Object", "clone", "()Ljava/lang/Object;"⟩ ∈ zTb) (hsel : Cond.selects "[B" ⟨"[B", "clone", "()Ljava/lang/Object;"⟩ ⟨"java/lang/Object", "clone", "()Ljava/lang/Object;"⟩ ∈ zTb) (hcl : (Cond.castable "[B" "java/lang/Cloneable").before args s = true)
    (hk : σ.1 a = (2, n9)) (hfit : ∀ i, i < n9 → fits .byte (.int (σ.2.1 a i)) = true) (hF : 1 ≤ R.frames) (hL : 22 ≤ R.locals) (hcells : cells + 1 ≤ R.cells) (hslots : slots + n9 ≤ R.slots) (hcat : (st.map fun v => v.category).sum ≤ 8) (hd : decode cc pc = .ok (.invokevirtual index, 3))
    (kk : zW p l e R s m args below meth c (cells + 1) (slots + n9) Q D Ca B nL (rp (znew σ N (2, n9)) N (σ.2.1 a)) (N + 1) (pc + 3) (lv) (.ref N :: st)) : zW p l e R s m args below meth c (cells) (slots) Q D Ca B nL σ (N) (pc) (lv) (.ref a :: st) := by
  intro H locs ls h hS hl T hT X
  have h21 : (σ.1 a).1 = 2 := by rw [hk]
  have hae := zent_2 (Ca := Ca) h21
  have hA := h.2.2 a _ hae
  have hc0 : H[a]? = some (vp_cell (Ca 2) ((σ.1 a).2, .inl (σ.2.1 a))) := hA.2
  rw [hk] at hc0
  have hK2 := C.2.2.2.2.2.1.2 1 _ rfl
  have hnm : s.vm.findClass "[B" = some (Ca 2) := hK2.2
  obtain ⟨c0, t0', f1, f2, f3⟩ := Cond.castable_spec hcl
  cases hnm.symm.trans f1
  have hcellT : T.heap[a]? = some (vp_cell (Ca 2) (n9, .inl (σ.2.1 a))) := by rw [hT]; exact hc0
  obtain ⟨-, kA, hkA, comp, hkind⟩ := State.isArrayOf_alike X.warmed.alike (hK2.1 0 (fun _ => .null))
  obtain ⟨-, kS, hkS, compS, hkindS⟩ := hK2.1 0 (fun _ => .null)
  have hsz : (vp_cell (Ca 2) (n9, .inl (σ.2.1 a))).slots.size = n9 := arrV_size _ _ _
  obtain ⟨vm', X', st9⟩ := X.cloneArray C.1 C.2.2.2.2.1 (C.2.2.2.1 _ hlink) (C.2.2.2.1 _ hsame) (C.2.2.2.1 _ hnat) (C.2.2.2.1 _ hinst) (C.2.2.2.1 _ hsel) (a := a) (cell := vp_cell (Ca 2) (n9, .inl (σ.2.1 a))) hcellT (fun k h => by cases h) (fun h => by cases h) hnm f2 f3
    (fun i v hv => by
      have hk' : T.vm.classes[Ca 2]? = some kA := hkA
      have hv2 : fits .byte v = true := by
        by_cases hi : i < n9
        · have e : (vp_cell (Ca 2) (n9, .inl (σ.2.1 a))).slots[i]? = some (.int (σ.2.1 a i)) := arrV_read _ _ hi
          rw [e] at hv
          cases hv
          exact hfit i hi
        · rw [Array.getElem?_eq_none (by rw [hsz]; omega)] at hv
          cases hv
      have hcl0 : (vp_cell (Ca 2) (n9, .inl (σ.2.1 a))).cls = Ca 2 := rfl
      rw [hcl0]
      simpa [State.fitsSlot, State.slotType?, hk', hkind] using hv2)
    (g := F0 m pc ls (.ref a :: st)) rfl (hl.1.trans C.2.2.1.symm) rfl (by rw [C.2.1]; exact hd) hF (by show 2 * 0 + _ + 14 ≤ _; omega) hcells (by rw [hsz]; exact hslots) (hloader := Vm.clonesLoader_of_array hkS hkindS)
  have hcellE : ({ cls := (vp_cell (Ca 2) (n9, .inl (σ.2.1 a))).cls, slots := (vp_cell (Ca 2) (n9, .inl (σ.2.1 a))).slots } : Cell) = vp_cell (Ca 2) (n9, .inl (σ.2.1 a)) := rfl
  rw [hcellE, hsz] at X'
  generalize hH1 : H.push (vp_cell (Ca 2) (n9, .inl (σ.2.1 a))) = H1
  have z1 : H1.size = N + 1 := by rw [← hH1, Array.size_push, h.1]
  have e1 : H1[N]? = some (vp_cell (Ca 2) (n9, .inl (σ.2.1 a))) := by rw [← hH1, ← h.1, Array.getElem?_push_size]
  have o1 : ∀ q : Nat, q < N → H1[q]? = H[q]? := fun q hq => by rw [← hH1, Array.getElem?_push, if_neg (by rw [h.1]; exact Nat.ne_of_lt hq)]
  have hzH : zH D Ca B (rp (znew σ N (2, n9)) N (σ.2.1 a)) (N + 1) H1 := ⟨z1, Nat.le_trans h.2.1 (Nat.le_succ N), fun q x hx => by
    by_cases hq : q = N
    · subst hq
      have e2 : zent Ca (rp (znew σ q (2, n9)) q (σ.2.1 a)) q = some (.inl (Ca 2, n9, .inl (σ.2.1 a))) := by
        rw [zent_2 (show ((rp (znew σ q (2, n9)) q (σ.2.1 a)).1 q).1 = 2 from by show ((znew σ q (2, n9)).1 q).1 = 2; rw [znew_k]), rp_at]
        show some (Sum.inl (Ca 2, ((znew σ q (2, n9)).1 q).2, _)) = _
        rw [znew_k]
      rw [e2] at hx
      cases hx
      exact ⟨h.2.1, e1⟩
    · have e2 : zent Ca (rp (znew σ N (2, n9)) N (σ.2.1 a)) q = zent Ca σ q := zent_off (znew_o (σ := σ) (q := (2, n9)) hq).1 (by rw [rp_ne hq]; exact (znew_o (σ := σ) (q := (2, n9)) hq).2.1) (znew_o (σ := σ) (q := (2, n9)) hq).2.2.1 (znew_o (σ := σ) (q := (2, n9)) hq).2.2.2
      rw [e2] at hx
      obtain ⟨g1, g2⟩ := h.2.2 q x hx
      exact ⟨g1, g2.kept (o1 q (by have h3 := va_at.lt g2; rw [h.1] at h3; exact h3))⟩⟩
  obtain ⟨t, b1, b2⟩ := kk H1 locs ls hzH (zS_new hS h.1 z1 o1) hl ((T.setVm vm').pushCell (vp_cell (Ca 2) (n9, .inl (σ.2.1 a)))) (by rw [← hH1, ← hT]; rfl) X'
  refine ⟨t, st9 t ?_, b2⟩
  rw [hcellE, hT]
  have e5 : H.size = N := h.1
  rw [e5]
  exact b1
end ZR
theorem zMet_Kr {l : Launch} {D : va_G} {Ca : Nat → ClassId} {B : Nat} {En : State → Prop} (hE : zEk B En) {y : MethodName} {own : String} {bytes : ByteArray} {mL : Nat} {ret : Option FieldType} {F L mc ms : Nat} {as : List Value} {σ : zS} {N : Nat} {K : zS → Nat → Nat → Prop} (hy : plainName y.cls = true) (ho : y.cls = own) (hm : (lg_sl as).length ≤ mL)
    (body : ∀ (p : Program) (e : Env) (s : State) (m : MethodId) (args : Array Value) (below : List Frame) (meth : Method) (c : Code), zC p s m args meth c bytes own mL D Ca B En → meth.sig.returnType = ret → meth.name = y.name → zW p l e (zRoomN F L mc ms) s m args below meth c 0 0 (MQ below (va_Qr (fun (u : zS × Nat × Nat) => K u.1 u.2.2 u.2.1 ∧ N ≤ u.2.1) (fun u a U => a = u.2.2 ∧ zIn D Ca B En u.1 u.2.1 U) (zA B)) args s mc ms (zA B)) D Ca B mL σ N 0 (lv_args 0 as) []) : zMKr l D Ca B En y bytes mL ret F L mc ms as σ N K := by
  refine Met.ofW (cc := bytes) (maxL := mL) (ret := ret) hy rfl ?_
  intro p e s m args below meth c s₁ X hml hv
  obtain ⟨rfl, hI⟩ := hv
  have hts := atoms_spec (ws := zWs y bytes mL ret) X.pre
  have C : zC p s m as.toArray meth c bytes own mL D Ca B En := ⟨X.exec, X.bytes, hml, fun w hw => hts w (List.mem_cons_of_mem _ hw), by rw [← ho]; exact findClass_of_methodNamed X.named, hI.2.1, hI.2.2.1, hE, by rw [hI.1.1]; exact hI.1.2.1, X.notSynchronized, hI.2.2.2⟩
  have hl := lv_entry as (n := mL) hm
  rw [lg_entry_eq]
  exact body p e s m as.toArray below meth c C X.returns (name_of_methodNamed X.named X.method).1 s.heap [] _ hI.1 va_S.rf hl
theorem zMet_Kw {l : Launch} {D : va_G} {Ca : Nat → ClassId} {B : Nat} {En : State → Prop} (hE : zEk B En) {y : MethodName} {own : String} {bytes : ByteArray} {mL : Nat} {F L mc ms : Nat} {as : List Value} {σ : zS} {N : Nat} {K : zS → Nat → Prop} (hy : plainName y.cls = true) (ho : y.cls = own) (hm : (lg_sl as).length ≤ mL)
    (body : ∀ (p : Program) (e : Env) (s : State) (m : MethodId) (args : Array Value) (below : List Frame) (meth : Method) (c : Code), zC p s m args meth c bytes own mL D Ca B En → meth.sig.returnType = none → meth.name = y.name → zW p l e (zRoomN F L mc ms) s m args below meth c 0 0 (MQ below (va_Qv (fun (u : zS × Nat) => K u.1 u.2 ∧ N ≤ u.2) (fun u => zIn D Ca B En u.1 u.2) (zA B)) args s mc ms (zA B)) D Ca B mL σ N 0 (lv_args 0 as) []) : zMKw l D Ca B En y bytes mL F L mc ms as σ N K := by
  refine Met.ofW (cc := bytes) (maxL := mL) (ret := none) hy rfl ?_
  intro p e s m args below meth c s₁ X hml hv
  obtain ⟨rfl, hI⟩ := hv
  have hts := atoms_spec (ws := zWs y bytes mL none) X.pre
  have C : zC p s m as.toArray meth c bytes own mL D Ca B En := ⟨X.exec, X.bytes, hml, fun w hw => hts w (List.mem_cons_of_mem _ hw), by rw [← ho]; exact findClass_of_methodNamed X.named, hI.2.1, hI.2.2.1, hE, by rw [hI.1.1]; exact hI.1.2.1, X.notSynchronized, hI.2.2.2⟩
  have hl := lv_entry as (n := mL) hm
  rw [lg_entry_eq]
  exact body p e s m as.toArray below meth c C X.returns (name_of_methodNamed X.named X.method).1 s.heap [] _ hI.1 va_S.rf hl
/-! The rows of digits. -/
def zDg (dg : Nat × Nat) (B : Nat) (U : State) : Prop :=
  va_Z "java/lang/Integer" "DigitOnes" "[B" (.ref dg.1) (zA B) U U.heap ∧ va_T .byte dg.1 100 (fun j => .int (nI (48 + j % 10))) (zA B) U U.heap ∧
  va_Z "java/lang/Integer" "DigitTens" "[B" (.ref dg.2) (zA B) U U.heap ∧ va_T .byte dg.2 100 (fun j => .int (nI (48 + j / 10))) (zA B) U U.heap
theorem zDg_k (dg : Nat × Nat) (B : Nat) : zEk B (zDg dg B) := by
  intro U U2 hv hh h
  have hq : ∀ a : Nat, a < U.heap.size → ¬ zA B a → U2.heap[a]? = U.heap[a]? := fun a _ h2 => hh a (Nat.not_le.mp h2)
  have ha : U.vm.Alike U2.vm := by
    rcases hv with h1 | h1
    · rw [h1]; exact Vm.Alike.refl _
    · exact h1.alike
  obtain ⟨h1, h2, h3, h4⟩ := h
  exact ⟨va_Z.moved ha (h1.kept hq), va_T.moved ha (h2.kept hq), va_Z.moved ha (h3.kept hq), va_T.moved ha (h4.kept hq)⟩
/-! Private methods of a builder, and that rows may be cloned. -/
def sbP : List MethodName := [yJ5_ensureCapacityInternal_d00df, yJ5_newCapacity_0f7a4, yJ5_putStringAt_47b60, yJ5_inflateIfNeededFor_a7421]
def zSl (U : State) : Prop := (∀ y ∈ sbP, va_Nw (.selects "java/lang/StringBuilder" y y) U) ∧ va_Nw (.castable "[B" "java/lang/Cloneable") U
theorem zSl_k (B : Nat) : zEk B zSl := by
  intro U U2 hv hh h
  rcases hv with h1 | h1
  · exact ⟨fun y hy => va_Nw.same rfl h1 (h.1 y hy), va_Nw.same rfl h1 h.2⟩
  · exact ⟨fun y hy => word_at h1 (Or.inl (by first | rfl | simp [Cond.onTables, Cond.keeps, Cond.steady])) (h.1 y hy), va_Nw.warmC h1 h.2⟩
section ZR
variable {p : Program} {l : Launch} {e : Env} {R : Room} {s : State} {m : MethodId} {args : Array Value} {below : List Frame} {meth : Method} {c : Code} {cells slots : Nat} {Q : State → Prop} {D : va_G} {Ca : Nat → ClassId} {B nL : Nat} {En : State → Prop} {cc : ByteArray} {own : String} {σ : zS} {N pc : Nat} {lv : List (Nat × Value)} {st : List Value}
theorem z_gsDO (C : zC p s m args meth c cc own nL D Ca B En) (dg : Nat × Nat) (hG : ∀ U : State, En U → zDg dg B U) {index : Nat} (hlink : Cond.fieldLink own index "java/lang/Integer" "DigitOnes" "[B" ∈ zTb) (hd : decode cc pc = .ok (.getstatic index, 3)) (k : zW p l e R s m args below meth c (cells) (slots) Q D Ca B nL σ (N) (pc + 3) (lv) (.ref dg.1 :: st)) : zW p l e R s m args below meth c (cells) (slots) Q D Ca B nL σ (N) (pc) (lv) (st) := fun H locs ls h hS hl => by
  have E := hG s C.2.2.2.2.2.2.1
  exact va_gets C.1 C.2.1 E.1 hS C.2.2.2.2.1 (C.2.2.2.1 _ hlink) (fun _ h => h) hd (k H locs ls h hS hl)
theorem z_bDO (C : zC p s m args meth c cc own nL D Ca B En) (dg : Nat × Nat) (hG : ∀ U : State, En U → zDg dg B U) {x : Int} (i : Nat) (hx : x = i) (hi : i < 100) (hd : decode cc pc = .ok (.baload, 1)) (k : zW p l e R s m args below meth c (cells) (slots) Q D Ca B nL σ (N) (pc + 1) (lv) (.int (nI (48 + i % 10)) :: st)) : zW p l e R s m args below meth c (cells) (slots) Q D Ca B nL σ (N) (pc) (lv) (.int (zi x) :: .ref dg.1 :: st) := fun H locs ls h hS hl => by
  have E := hG s C.2.2.2.2.2.2.1
  subst hx
  have e9 : (zi (i : Nat)).toNatClampNeg = i := by rw [zi_nat (by omega) (by omega)]; exact Int.toNat_natCast i
  have hi2 : ¬ (zi (i : Nat) < 0 ∨ 100 ≤ (zi (i : Nat)).toNatClampNeg) := by
    rw [e9, show (0 : Int32) = zi 0 from rfl, zi_lt (by omega) (by omega) (by omega) (by omega)]
    omega
  refine va_tb C.1 C.2.1 E.2.1 hS hi2 ?_ hd (k H locs ls h hS hl)
  rw [e9]
theorem z_gsDT (C : zC p s m args meth c cc own nL D Ca B En) (dg : Nat × Nat) (hG : ∀ U : State, En U → zDg dg B U) {index : Nat} (hlink : Cond.fieldLink own index "java/lang/Integer" "DigitTens" "[B" ∈ zTb) (hd : decode cc pc = .ok (.getstatic index, 3)) (k : zW p l e R s m args below meth c (cells) (slots) Q D Ca B nL σ (N) (pc + 3) (lv) (.ref dg.2 :: st)) : zW p l e R s m args below meth c (cells) (slots) Q D Ca B nL σ (N) (pc) (lv) (st) := fun H locs ls h hS hl => by
  have E := hG s C.2.2.2.2.2.2.1
  exact va_gets C.1 C.2.1 E.2.2.1 hS C.2.2.2.2.1 (C.2.2.2.1 _ hlink) (fun _ h => h) hd (k H locs ls h hS hl)
theorem z_bDT (C : zC p s m args meth c cc own nL D Ca B En) (dg : Nat × Nat) (hG : ∀ U : State, En U → zDg dg B U) {x : Int} (i : Nat) (hx : x = i) (hi : i < 100) (hd : decode cc pc = .ok (.baload, 1)) (k : zW p l e R s m args below meth c (cells) (slots) Q D Ca B nL σ (N) (pc + 1) (lv) (.int (nI (48 + i / 10)) :: st)) : zW p l e R s m args below meth c (cells) (slots) Q D Ca B nL σ (N) (pc) (lv) (.int (zi x) :: .ref dg.2 :: st) := fun H locs ls h hS hl => by
  have E := hG s C.2.2.2.2.2.2.1
  subst hx
  have e9 : (zi (i : Nat)).toNatClampNeg = i := by rw [zi_nat (by omega) (by omega)]; exact Int.toNat_natCast i
  have hi2 : ¬ (zi (i : Nat) < 0 ∨ 100 ≤ (zi (i : Nat)).toNatClampNeg) := by
    rw [e9, show (0 : Int32) = zi 0 from rfl, zi_lt (by omega) (by omega) (by omega) (by omega)]
    omega
  refine va_tb C.1 C.2.1 E.2.2.2 hS hi2 ?_ hd (k H locs ls h hS hl)
  rw [e9]
end ZR
