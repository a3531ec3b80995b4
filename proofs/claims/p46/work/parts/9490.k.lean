/-! CONTRACTS OF METHODS THAT MAKE OBJECTS: what they come to is told by a predicate. -/
def zMK (l : Launch) (D : va_G) (Ca : Nat → ClassId) (B : Nat) (En : State → Prop) (y : MethodName) (bytes : ByteArray) (mL : Nat) (ret : Option FieldType) (F L mc ms : Nat) (as : List Value) (σ : zS) (N : Nat) (K : zS → Int32 → Prop) : Prop :=
  Met l y (zWs y bytes mL ret) (zRoomN F L mc ms) (va_Pc as (zIn D Ca B En σ N)) (va_Qi (fun (r2 : Int32) (u : zS × Nat) => K u.1 r2 ∧ N ≤ u.2) (fun u => zIn D Ca B En u.1 u.2) (zA B)) mc ms (zA B)
def zMKv (l : Launch) (D : va_G) (Ca : Nat → ClassId) (B : Nat) (En : State → Prop) (y : MethodName) (bytes : ByteArray) (mL : Nat) (F L mc ms : Nat) (as : List Value) (σ : zS) (N : Nat) (K : zS → Prop) : Prop :=
  Met l y (zWs y bytes mL none) (zRoomN F L mc ms) (va_Pc as (zIn D Ca B En σ N)) (va_Qv (fun (u : zS × Nat) => K u.1 ∧ N ≤ u.2) (fun u => zIn D Ca B En u.1 u.2) (zA B)) mc ms (zA B)
section ZK
variable {p : Program} {l : Launch} {e : Env} {R : Room} {s : State} {m : MethodId} {args : Array Value} {below : List Frame} {meth : Method} {c : Code} {cells slots : Nat} {Q : State → Prop} {D : va_G} {Ca : Nat → ClassId} {B nL : Nat} {En : State → Prop} {cc : ByteArray} {own : String} {σ : zS} {N pc : Nat} {lv : List (Nat × Value)} {st : List Value}
theorem z_callK (C : zC p s m args meth c cc own nL D Ca B En) {y : MethodName} {bytes : ByteArray} {mL F L mc ms index n : Nat} {ret : Option FieldType} {As : List Value} {K : zS → Int32 → Prop} {stk : List Value} (hM : zMK l D Ca B En y bytes mL ret F L mc ms As σ N K) (hcode : Cond.code y bytes mL ret ∈ zTb) (hini : Cond.initialized y.cls ∈ zTb) (hlink : Cond.methodLink own index y ∈ zTb) (hstat : Cond.static y ∈ zTb) (hy : y.cls ≠ "java/lang/invoke/MethodHandle" ∧ y.cls ≠ "java/lang/invoke/VarHandle" ∧ (parseMethodDescriptor y.desc).map (fun d => d.parameters.length) = some n) (hF : F + 1 ≤ R.frames) (hL : 8 + (mL + 11) + L ≤ R.locals) (hn : As.length = n) (hstk : stk = As.reverse ++ st) (hcat : (st.map fun v => v.category).sum ≤ 8) (hd : decode cc pc = .ok (.invokestatic index, 3)) (h1 : cells + mc ≤ R.cells) (h6 : slots + ms ≤ R.slots) (kk : ∀ (τ : zS) (r : Int32) (N2 : Nat), K τ r → N ≤ N2 → zW p l e R s m args below meth c (cells + mc) (slots + ms) Q D Ca B nL τ N2 (pc + 3) lv (.int r :: st)) : zW p l e R s m args below meth c cells slots Q D Ca B nL σ N pc lv stk := by
  intro H locs ls h hS hl
  refine va_calli (va_runS (As := As) (rest := st) ⟨C.1, C.2.1, C.2.2.1, C.2.2.2.2.1, C.2.2.2.1⟩ hM ⟨callB_of n C.2.2.2.1 (zGood hcode) rfl rfl rfl (C.2.2.2.1 _ hini) (C.2.2.2.1 _ hlink) hy ⟨hF, hL⟩, C.2.2.2.1 _ hstat⟩ ⟨zBlind C.2.2.2.2.2.2.2.1, fun U hU hW => ⟨rfl, zIn_of C h hS hU hW⟩⟩ rfl hn hl.1 hstk (lv_room hcat) hd ⟨h1, h6⟩) hS (fun q _ h => h) (fun q h => h) (fun r2 u t H1 locs1 ht hvm hp hB hz hk1 hS1 => ?_)
  exact kk u.1 r2 u.2 hp.1 hp.2 H1 locs1 ls (by rw [← ht]; exact hB.1) hS1 hl
theorem z_callKv (C : zC p s m args meth c cc own nL D Ca B En) {y : MethodName} {bytes : ByteArray} {mL F L mc ms index n : Nat} {As : List Value} {K : zS → Prop} {stk : List Value} (hM : zMKv l D Ca B En y bytes mL F L mc ms As σ N K) (hcode : Cond.code y bytes mL none ∈ zTb) (hini : Cond.initialized y.cls ∈ zTb) (hlink : Cond.methodLink own index y ∈ zTb) (hstat : Cond.static y ∈ zTb) (hy : y.cls ≠ "java/lang/invoke/MethodHandle" ∧ y.cls ≠ "java/lang/invoke/VarHandle" ∧ (parseMethodDescriptor y.desc).map (fun d => d.parameters.length) = some n) (hF : F + 1 ≤ R.frames) (hL : 8 + (mL + 11) + L ≤ R.locals) (hn : As.length = n) (hstk : stk = As.reverse ++ st) (hcat : (st.map fun v => v.category).sum ≤ 8) (hd : decode cc pc = .ok (.invokestatic index, 3)) (h1 : cells + mc ≤ R.cells) (h6 : slots + ms ≤ R.slots) (kk : ∀ (τ : zS) (N2 : Nat), K τ → N ≤ N2 → zW p l e R s m args below meth c (cells + mc) (slots + ms) Q D Ca B nL τ N2 (pc + 3) lv st) : zW p l e R s m args below meth c cells slots Q D Ca B nL σ N pc lv stk := by
  intro H locs ls h hS hl
  refine va_callv (va_runS (As := As) (rest := st) ⟨C.1, C.2.1, C.2.2.1, C.2.2.2.2.1, C.2.2.2.1⟩ hM ⟨callB_of n C.2.2.2.1 (zGood hcode) rfl rfl rfl (C.2.2.2.1 _ hini) (C.2.2.2.1 _ hlink) hy ⟨hF, hL⟩, C.2.2.2.1 _ hstat⟩ ⟨zBlind C.2.2.2.2.2.2.2.1, fun U hU hW => ⟨rfl, zIn_of C h hS hU hW⟩⟩ rfl hn hl.1 hstk (lv_room hcat) hd ⟨h1, h6⟩) hS (fun q _ h => h) (fun q h => h) (fun u t H1 locs1 ht hvm hp hB hz hk1 hS1 => ?_)
  exact kk u.1 u.2 hp.1 hp.2 H1 locs1 ls (by rw [← ht]; exact hB.1) hS1 hl
/-- some cells are looked at no more -/
theorem z_weak {τ : zS} (h : ∀ a x, zent Ca τ a = some x → zent Ca σ a = some x) (kk : zW p l e R s m args below meth c cells slots Q D Ca B nL τ N pc lv st) : zW p l e R s m args below meth c cells slots Q D Ca B nL σ N pc lv st := fun H locs ls hH hS hl =>
  kk H locs ls ⟨hH.1, hH.2.1, fun a x hx => hH.2.2 a x (h a x hx)⟩ hS hl
theorem zfin_K (C : zC p s m args meth c cc own nL D Ca B En) {K : zS → Int32 → Prop} {r : Int32} {N0 mc ms : Nat} (hK : K σ r) (hr : meth.sig.returnType = some .int) (hN : N0 ≤ N) (hc : cells ≤ mc) (hs : slots ≤ ms) (hd : decode cc pc = .ok (.ireturn, 1)) : zW p l e R s m args below meth c cells slots (MQ below (va_Qi (fun (r2 : Int32) (u : zS × Nat) => K u.1 r2 ∧ N0 ≤ u.2) (fun u => zIn D Ca B En u.1 u.2) (zA B)) args s mc ms (zA B)) D Ca B nL σ N pc lv [.int r] := fun H locs ls h hS hl =>
  W.widen hc hs (W.iret C.1 C.2.1 hr (fun t ht hW => ⟨⟨r, (σ, N), rfl, ⟨hK, hN⟩, zIn_of C h hS ht hW⟩, hS.F ht⟩) hS.2.2 hd C.2.2.2.2.2.2.2.2.2.1)
theorem zfin_Kz (C : zC p s m args meth c cc own nL D Ca B En) {K : zS → Int32 → Prop} {r : Int32} {N0 mc ms : Nat} (hb : r = 0 ∨ r = 1) (hK : K σ r) (hr : meth.sig.returnType = some .boolean) (hN : N0 ≤ N) (hc : cells ≤ mc) (hs : slots ≤ ms) (hd : decode cc pc = .ok (.ireturn, 1)) : zW p l e R s m args below meth c cells slots (MQ below (va_Qi (fun (r2 : Int32) (u : zS × Nat) => K u.1 r2 ∧ N0 ≤ u.2) (fun u => zIn D Ca B En u.1 u.2) (zA B)) args s mc ms (zA B)) D Ca B nL σ N pc lv [.int r] := fun H locs ls h hS hl =>
  W.widen hc hs (W.zret C.1 C.2.1 hr (zn_boolean hb).1 (fun t ht hW => ⟨⟨r, (σ, N), rfl, ⟨hK, hN⟩, zIn_of C h hS ht hW⟩, hS.F ht⟩) hS.2.2 hd C.2.2.2.2.2.2.2.2.2.1)
theorem zfin_Kv (C : zC p s m args meth c cc own nL D Ca B En) {K : zS → Prop} {N0 mc ms : Nat} (hK : K σ) (hr : meth.sig.returnType = none) (hN : N0 ≤ N) (hc : cells ≤ mc) (hs : slots ≤ ms) (hd : decode cc pc = .ok (.return_, 1)) : zW p l e R s m args below meth c cells slots (MQ below (va_Qv (fun (u : zS × Nat) => K u.1 ∧ N0 ≤ u.2) (fun u => zIn D Ca B En u.1 u.2) (zA B)) args s mc ms (zA B)) D Ca B nL σ N pc lv [] := fun H locs ls h hS hl =>
  W.widen hc hs (W.vret C.1 C.2.1 hr (fun t ht hW => ⟨⟨(σ, N), rfl, ⟨hK, hN⟩, zIn_of C h hS ht hW⟩, hS.F ht⟩) hS.2.2 hd C.2.2.2.2.2.2.2.2.2.1)
end ZK
theorem zMet_K {l : Launch} {D : va_G} {Ca : Nat → ClassId} {B : Nat} {En : State → Prop} (hE : zEk B En) {y : MethodName} {own : String} {bytes : ByteArray} {mL : Nat} {ret : Option FieldType} {F L mc ms : Nat} {as : List Value} {σ : zS} {N : Nat} {K : zS → Int32 → Prop} (hy : plainName y.cls = true) (ho : y.cls = own) (hm : (lg_sl as).length ≤ mL)
    (body : ∀ (p : Program) (e : Env) (s : State) (m : MethodId) (args : Array Value) (below : List Frame) (meth : Method) (c : Code), zC p s m args meth c bytes own mL D Ca B En → meth.sig.returnType = ret → zW p l e (zRoomN F L mc ms) s m args below meth c 0 0 (MQ below (va_Qi (fun (r2 : Int32) (u : zS × Nat) => K u.1 r2 ∧ N ≤ u.2) (fun u => zIn D Ca B En u.1 u.2) (zA B)) args s mc ms (zA B)) D Ca B mL σ N 0 (lv_args 0 as) []) : zMK l D Ca B En y bytes mL ret F L mc ms as σ N K := by
  refine Met.ofW (cc := bytes) (maxL := mL) (ret := ret) hy rfl ?_
  intro p e s m args below meth c s₁ X hml hv
  obtain ⟨rfl, hI⟩ := hv
  have hts := atoms_spec (ws := zWs y bytes mL ret) X.pre
  have C : zC p s m as.toArray meth c bytes own mL D Ca B En := ⟨X.exec, X.bytes, hml, fun w hw => hts w (List.mem_cons_of_mem _ hw), by rw [← ho]; exact findClass_of_methodNamed X.named, hI.2.1, hI.2.2.1, hE, by rw [hI.1.1]; exact hI.1.2.1, X.notSynchronized, hI.2.2.2⟩
  have hl := lv_entry as (n := mL) hm
  rw [lg_entry_eq]
  exact body p e s m as.toArray below meth c C X.returns s.heap [] _ hI.1 va_S.rf hl
theorem zMet_Kv {l : Launch} {D : va_G} {Ca : Nat → ClassId} {B : Nat} {En : State → Prop} (hE : zEk B En) {y : MethodName} {own : String} {bytes : ByteArray} {mL : Nat} {F L mc ms : Nat} {as : List Value} {σ : zS} {N : Nat} {K : zS → Prop} (hy : plainName y.cls = true) (ho : y.cls = own) (hm : (lg_sl as).length ≤ mL)
    (body : ∀ (p : Program) (e : Env) (s : State) (m : MethodId) (args : Array Value) (below : List Frame) (meth : Method) (c : Code), zC p s m args meth c bytes own mL D Ca B En → meth.sig.returnType = none → zW p l e (zRoomN F L mc ms) s m args below meth c 0 0 (MQ below (va_Qv (fun (u : zS × Nat) => K u.1 ∧ N ≤ u.2) (fun u => zIn D Ca B En u.1 u.2) (zA B)) args s mc ms (zA B)) D Ca B mL σ N 0 (lv_args 0 as) []) : zMKv l D Ca B En y bytes mL F L mc ms as σ N K := by
  refine Met.ofW (cc := bytes) (maxL := mL) (ret := none) hy rfl ?_
  intro p e s m args below meth c s₁ X hml hv
  obtain ⟨rfl, hI⟩ := hv
  have hts := atoms_spec (ws := zWs y bytes mL none) X.pre
  have C : zC p s m as.toArray meth c bytes own mL D Ca B En := ⟨X.exec, X.bytes, hml, fun w hw => hts w (List.mem_cons_of_mem _ hw), by rw [← ho]; exact findClass_of_methodNamed X.named, hI.2.1, hI.2.2.1, hE, by rw [hI.1.1]; exact hI.1.2.1, X.notSynchronized, hI.2.2.2⟩
  have hl := lv_entry as (n := mL) hm
  rw [lg_entry_eq]
  exact body p e s m as.toArray below meth c C X.returns s.heap [] _ hI.1 va_S.rf hl
/-- no cells are known from N on -/
def zfree (σ : zS) (N : Nat) : Prop := ∀ a, N ≤ a → σ.1 a = (0, 0)
theorem zent_rp_new {Ca : Nat → ClassId} {σ : zS} {N : Nat} {q : Nat × Nat} {g : Nat → Int32} (h : zfree σ N) : ∀ a x, zent Ca σ a = some x → zent Ca (rp (znew σ N q) N g) a = some x := by
  intro a x hx
  by_cases e : a = N
  · subst e
    have : zent Ca σ a = none := by
      unfold zent
      rw [h a (Nat.le_refl a)]
    rw [this] at hx
    cases hx
  · rw [← hx]
    refine zent_off ?_ ?_ ?_ ?_
    · show (znew σ N q).1 a = _
      exact if_neg e
    · rw [rp_ne e]
      exact if_neg e
    · show (znew σ N q).2.2.1 a = _
      exact if_neg e
    · show (znew σ N q).2.2.2 a = _
      exact if_neg e
/-- isOnce answers true -/
theorem mL_isOnce (l : Launch) (D : va_G) (Ca : Nat → ClassId) (B : Nat) (En : State → Prop) (hE : zEk B En) {z : Int} {σ : zS} {X : Nat} {P : qP} {M : qM} {H : List qM} {S : Option qM} (N : Nat) (h : LC z σ X P M H S) (hz : z < 700000000) (hN : X + 307 ≤ N) (hf : zfree σ N) : zMK l D Ca B En yL_isOnce cL_isOnce 5 (Option.some Jvm.ClassFile.FieldType.boolean) 4 89 1 16 [.ref X] σ N (fun τ r => τ = σ ∧ r = zi 1) := by
  refine zMet_K (own := RL) hE (by decide +kernel) rfl (Nat.le_of_ble_eq_true rfl) (fun p e s m args below meth c C hr => ?_)
  have h1 : LC z (znew σ N (1, 16)) X P M H S := LC_eq h (zgr_eq zgr_new (by omega))
  obtain ⟨g, eg⟩ := ev_once h1 hz hN znew_k (fun k hk => by
    have e3 : (znew σ N (1, 16)).2.1 N = fun _ => 0 := if_pos rfl
    rw [e3]
    rfl)
  refine z_bipush C (zi 16) dL_isOnce_0 (by decide) ?_
  refine z_newI (n9 := 16) C kw_154 (by decide +kernel) (by decide +kernel) (Nat.le_of_ble_eq_true rfl) (Nat.le_of_ble_eq_true rfl) (Nat.le_of_ble_eq_true rfl) dL_isOnce_2 ?_
  refine z_astore_n (lv2 := [(1, .ref N), (0, .ref X)]) C dL_isOnce_4 rfl (by decide) rfl ?_
  refine z_sub (lv2 := [(0, .ref X), (1, .ref N)]) [1, 0] rfl ?_
  refine wjL_isOnce_5 C ⟨Nat.le_refl _, Nat.le_refl _, Nat.le_of_ble_eq_true rfl, Nat.le_of_ble_eq_true rfl⟩ _ X N _ _ eg (fun pc lv hb hd => ?_)
  exact z_weak (zent_rp_new hf) (zfin_Kz (K := fun τ r => τ = σ ∧ r = zi 1) C hb ⟨rfl, rfl⟩ hr (by omega) (by omega) (by omega) hd)
