/-! Methods that throw: which exception, and nothing changed but that the heap has grown. -/
def zEx (k : Nat) : String := if k = 1 then "java/lang/IndexOutOfBoundsException" else if k = 2 then "java/lang/IllegalArgumentException" else if k = 3 then "java/lang/IllegalStateException" else "java/util/NoSuchElementException"
def zEi (k : Nat) : Nat := if k = 1 then 155 else if k = 2 then 224 else if k = 3 then 306 else 211
def zEc (k : Nat) : Nat := if k = 1 then 157 else if k = 2 then 226 else if k = 3 then 308 else 213
abbrev zEn2 : List String := ["java/lang/RuntimeException", "java/lang/Exception"]
def zEl (k : Nat) : List Cond := Cond.classLink RX9 (zEi k) (zEx k) :: Cond.initialized (zEx k) :: vx_at0 RX9 (zEc k) (zEx k) zEn2
theorem zEl_1 : (zEl 1).all (fun w => decide (w ∈ tables_1) && vx_ot w) = true := by decide +kernel
theorem zEl_2 : (zEl 2).all (fun w => decide (w ∈ tables_1) && vx_ot w) = true := by decide +kernel
theorem zEl_3 : (zEl 3).all (fun w => decide (w ∈ tables_1) && vx_ot w) = true := by decide +kernel
theorem zEl_4 : (zEl 4).all (fun w => decide (w ∈ tables_1) && vx_ot w) = true := by decide +kernel
/-- the heap has grown, nothing else -/
theorem zH_grow {D : va_G} {Ca : Nat → ClassId} {B : Nat} {σ : zS} {N : Nat} {H H2 : Heap} (h : zH D Ca B σ N H) (hs : H.size ≤ H2.size) (hq : ∀ q : Nat, q < H.size → H2[q]? = H[q]?) : zH D Ca B σ H2.size H2 :=
  ⟨rfl, Nat.le_trans (by rw [h.1]; exact h.2.1) hs, fun a e he => ⟨(h.2.2 a e he).1, (h.2.2 a e he).2.kept (hq a (va_at.lt (h.2.2 a e he).2))⟩⟩
abbrev zRoomX (F L : Nat) : Room := { frames := F, cells := 1, slots := 6, locals := L }
/-- what is thrown: kind k, in the state σ -/
def zXC (D : va_G) (Ca : Nat → ClassId) (B : Nat) (σ : zS) (N k : Nat) : String → State → State → Prop := vx_X (fun N2 : Nat => N ≤ N2) (fun E N2 t => E = zEx k ∧ zH D Ca B σ N2 t.heap) (zA B)
/-- a method that throws kind k -/
def zMx (l : Launch) (D : va_G) (Ca : Nat → ClassId) (B : Nat) (En : State → Prop) (y : MethodName) (bytes : ByteArray) (mL : Nat) (ret : Option FieldType) (F L : Nat) (as : List Value) (σ : zS) (N k : Nat) : Prop :=
  vx_Met l y (zWs y bytes mL ret) (zRoomX F L) (va_Pc as (zIn D Ca B En σ N)) (fun _ _ _ _ => False) (zXC D Ca B σ N k) 1 6 (zA B)
theorem zMet_x {l : Launch} {D : va_G} {Ca : Nat → ClassId} {B : Nat} {En : State → Prop} (hE : zEk B En) {y : MethodName} {own : String} {bytes : ByteArray} {mL : Nat} {ret : Option FieldType} {F L : Nat} {as : List Value} {σ : zS} {N k : Nat} (hy : plainName y.cls = true) (ho : y.cls = own) (hm : (lg_sl as).length ≤ mL)
    (body : ∀ (p : Program) (e : Env) (s : State) (m : MethodId) (args : Array Value) (below : List Frame) (meth : Method) (c : Code), zC p s m args meth c bytes own mL D Ca B En → (∀ x ∈ c.exceptionTable.toList, False) → zRm (zRoomX F L) F L 0 0 → zW p l e (zRoomX F L) s m args below meth c 0 0 (vx_MQ below (fun _ _ _ _ => False) (zXC D Ca B σ N k) args s 1 6 (zA B)) D Ca B mL σ N 0 (lv_args 0 as) []) : zMx l D Ca B En y bytes mL ret F L as σ N k := by
  refine vx_ofW (cc := bytes) (maxL := mL) (ret := ret) hy rfl ?_
  intro p e s m args below meth c s₁ X hml hx hv
  obtain ⟨rfl, hI⟩ := hv
  have hts := atoms_spec (ws := zWs y bytes mL ret) X.pre
  have C : zC p s m as.toArray meth c bytes own mL D Ca B En := ⟨X.exec, X.bytes, hml, fun w hw => hts w (List.mem_cons_of_mem _ hw), by rw [← ho]; exact findClass_of_methodNamed X.named, hI.2.1, hI.2.2.1, hE, by rw [hI.1.1]; exact hI.1.2.1, X.notSynchronized, hI.2.2.2⟩
  have hl := lv_entry as (n := mL) hm
  rw [lg_entry_eq]
  exact body p e s m as.toArray below meth c C hx ⟨Nat.le_refl _, Nat.le_refl _, Nat.zero_le _, Nat.zero_le _⟩ s.heap [] _ hI.1 va_S.rf hl
