/-! Constructors: a new cell lies at the heap's end. -/
def znew (σ : zS) (N : Nat) (q : Nat × Nat) : zS := ((fun a => if a = N then q else σ.1 a), (fun a => if a = N then fun _ => 0 else σ.2.1 a), (fun a => if a = N then fun _ => none else σ.2.2.1 a), (fun a => if a = N then fun _ => 0 else σ.2.2.2 a))
abbrev zRoomN (F L mc ms : Nat) : Room := { frames := F, cells := mc, slots := ms, locals := L }
/-- a constructor: mc cells of ms slots in all are made; it comes to τ -/
def zMn (l : Launch) (D : va_G) (Ca : Nat → ClassId) (B : Nat) (En : State → Prop) (y : MethodName) (bytes : ByteArray) (mL F L mc ms : Nat) (as : List Value) (σ : zS) (N : Nat) (τ : zS) : Prop :=
  Met l y (zWs y bytes mL none) (zRoomN F L mc ms) (va_Pc as (zIn D Ca B En σ N)) (va_Qv (fun (_ : Unit) => True) (fun _ => zIn D Ca B En τ (N + mc)) (zA B)) mc ms (zA B)
theorem znew_k {σ : zS} {N : Nat} {q : Nat × Nat} : (znew σ N q).1 N = q := if_pos rfl
theorem znew_o {σ : zS} {N a : Nat} {q : Nat × Nat} (h : a ≠ N) : (znew σ N q).1 a = σ.1 a ∧ (znew σ N q).2.1 a = σ.2.1 a ∧ (znew σ N q).2.2.1 a = σ.2.2.1 a ∧ (znew σ N q).2.2.2 a = σ.2.2.2 a := ⟨if_neg h, if_neg h, if_neg h, if_neg h⟩
theorem zH_new {D : va_G} {Ca : Nat → ClassId} {B : Nat} {σ : zS} {N : Nat} {q : Nat × Nat} {H H1 : Heap} (h : zH D Ca B σ N H) (z1 : H1.size = N + 1) (o1 : ∀ x : Nat, x < N → H1[x]? = H[x]?) (hat : ∀ e, zent Ca (znew σ N q) N = some e → va_at D vwCl (N, e) H1) : zH D Ca B (znew σ N q) (N + 1) H1 :=
  ⟨z1, Nat.le_trans h.2.1 (Nat.le_succ N), fun a e he => by
    by_cases ha : a = N
    · subst ha
      exact ⟨h.2.1, hat e he⟩
    · have hz : zent Ca (znew σ N q) a = zent Ca σ a := zent_off (znew_o ha).1 (znew_o ha).2.1 (znew_o ha).2.2.1 (znew_o ha).2.2.2
      rw [hz] at he
      obtain ⟨h1, h2⟩ := h.2.2 a e he
      exact ⟨h1, h2.kept (o1 a (by have h3 := va_at.lt h2; rw [h.1] at h3; exact h3))⟩⟩
theorem zS_new {B : Nat} {H0 H H1 : Heap} {locs : List Loc} {N : Nat} (hS : va_S (zA B) H0 H locs) (h : H.size = N) (z1 : H1.size = N + 1) (o1 : ∀ x : Nat, x < N → H1[x]? = H[x]?) : va_S (zA B) H0 H1 locs :=
  ⟨Nat.le_trans hS.1 (by omega), fun x h1 h2 => (o1 x (by have := hS.1; omega)).trans (hS.2.1 x h1 h2), hS.2.2⟩
section ZN
variable {p : Program} {l : Launch} {e : Env} {R : Room} {s : State} {m : MethodId} {args : Array Value} {below : List Frame} {meth : Method} {c : Code} {cells slots : Nat} {Q : State → Prop} {D : va_G} {Ca : Nat → ClassId} {B nL : Nat} {En : State → Prop} {cc : ByteArray} {own : String} {σ : zS} {N pc : Nat} {lv : List (Nat × Value)} {st : List Value}
theorem z_newO (C : zC p s m args meth c cc own nL D Ca B En) {Cn : String} {T : u_T} {Nf k index : Nat} (hc : vwCl[k]? = some (Cn, T, Nf)) (hN : Nf = znf k) (hin : ∀ w ∈ u_ws Cn T Nf, w ∈ zTb) (ty : Nat → FieldType) (hty : ∀ k, k < Nf → parseFieldDescriptor (T k).2.2.1 = some (ty k)) (hcl : Cond.classLink own index Cn ∈ zTb) (hinst : Cond.instantiable Cn Nf ∈ zTb) (hini : Cond.initialized Cn ∈ zTb) (hdef : ∀ j, j < Nf → defaultValue (ty j) = if (zrt k).contains j then .null else .int 0) (hcells : cells + 1 ≤ R.cells) (hslots : slots + Nf ≤ R.slots) (hd : decode cc pc = .ok (.new index, 3))
    (kk : zW p l e R s m args below meth c (cells + 1) (slots + Nf) Q D Ca B nL (znew σ N (k + 5, 0)) (N + 1) (pc + 3) lv (.ref N :: st)) : zW p l e R s m args below meth c cells slots Q D Ca B nL σ N pc lv st := by
  intro H locs ls h hS hl
  have hKn := C.2.2.2.2.2.1.1 k _ hc
  refine W.newcK C.1 C.2.1 C.2.2.2.2.1 (C.2.2.2.1 _ hcl) (C.2.2.2.1 _ hinst) (C.2.2.2.1 _ hini) rfl hd hcells hslots hKn.2.1 h.1 fun H1 kC hkC e1 z1 o1 => ?_
  refine kk H1 locs ls (zH_new h z1 o1 (fun e9 he => ?_)) (zS_new hS h.1 z1 o1) hl
  have he2 : zent Ca (znew σ N (k + 5, 0)) N = some (.inr (k, zfs k (znew σ N (k + 5, 0)) N)) := zent_obj (by rw [znew_k])
  rw [he2] at he
  cases he
  refine ⟨_, hc, (u_born ty C.2.2.2.1 hin hKn hkC e1 hty).to (fun j hj => ?_)⟩
  unfold vp_V
  rw [List.getD_eq_getElem?_getD, zfs_get _ _ (by rw [← hN]; exact hj), hdef j hj]
  show _ = zfd k (znew σ N (k + 5, 0)) N j
  unfold zfd
  have e2 : (znew σ N (k + 5, 0)).2.2.1 N = fun _ => none := if_pos rfl
  have e3 : (znew σ N (k + 5, 0)).2.1 N = fun _ => 0 := if_pos rfl
  rw [e2, e3]
  rfl
theorem z_newI (C : zC p s m args meth c cc own nL D Ca B En) {n : Int32} {n9 : Nat} (harr : Cond.arrayClass .int ∈ zTb) (hn : ¬ n < 0) (hN : n.toNatClampNeg = n9) (hb : n9 * 4 ≤ 536870912) (hcells : cells + 1 ≤ R.cells) (hslots : slots + n9 ≤ R.slots) (hd : decode cc pc = .ok (.newarray .int, 2))
    (kk : zW p l e R s m args below meth c (cells + 1) (slots + n9) Q D Ca B nL (znew σ N (1, n9)) (N + 1) (pc + 2) lv (.ref N :: st)) : zW p l e R s m args below meth c cells slots Q D Ca B nL σ N pc lv (.int n :: st) := by
  intro H locs ls h hS hl
  refine va_newaK C.1 C.2.1 (atype := .int) (C.2.2.2.1 _ harr) rfl hd rfl hn hN hb hcells hslots h.1 fun H1 cA e1 z1 o1 hAr hNm => ?_
  have hcA : cA = Ca 1 := Option.some.inj (hNm.symm.trans (C.2.2.2.2.2.1.2 0 _ rfl).2)
  subst hcA
  refine kk H1 locs ls (zH_new h z1 o1 (fun e9 he => ?_)) (zS_new hS h.1 z1 o1) hl
  have he2 := zent_1 (Ca := Ca) (σ := znew σ N (1, n9)) (a := N) (by rw [znew_k])
  rw [he2] at he
  cases he
  show H1[N]? = some (vp_cell _ _)
  have e3 : (znew σ N (1, n9)).2.1 N = fun _ => 0 := if_pos rfl
  rw [vp_cell_i, e3, znew_k]
  exact e1
theorem z_newB (C : zC p s m args meth c cc own nL D Ca B En) {n : Int32} {n9 : Nat} (harr : Cond.arrayClass .byte ∈ zTb) (hn : ¬ n < 0) (hN : n.toNatClampNeg = n9) (hb : n9 * 1 ≤ 536870912) (hcells : cells + 1 ≤ R.cells) (hslots : slots + n9 ≤ R.slots) (hd : decode cc pc = .ok (.newarray .byte, 2))
    (kk : zW p l e R s m args below meth c (cells + 1) (slots + n9) Q D Ca B nL (znew σ N (2, n9)) (N + 1) (pc + 2) lv (.ref N :: st)) : zW p l e R s m args below meth c cells slots Q D Ca B nL σ N pc lv (.int n :: st) := by
  intro H locs ls h hS hl
  refine va_newaK C.1 C.2.1 (atype := .byte) (C.2.2.2.1 _ harr) rfl hd rfl hn hN hb hcells hslots h.1 fun H1 cA e1 z1 o1 hAr hNm => ?_
  have hcA : cA = Ca 2 := Option.some.inj (hNm.symm.trans (C.2.2.2.2.2.1.2 1 _ rfl).2)
  subst hcA
  refine kk H1 locs ls (zH_new h z1 o1 (fun e9 he => ?_)) (zS_new hS h.1 z1 o1) hl
  have he2 := zent_2 (Ca := Ca) (σ := znew σ N (2, n9)) (a := N) (by rw [znew_k])
  rw [he2] at he
  cases he
  show H1[N]? = some (vp_cell _ _)
  have e3 : (znew σ N (2, n9)).2.1 N = fun _ => 0 := if_pos rfl
  rw [vp_cell_i, e3, znew_k]
  exact e1
/-- a row of flows -/
theorem z_newQ (C : zC p s m args meth c cc own nL D Ca B En) {n : Int32} {n9 index : Nat} (hcl : Cond.classLink own index "BarrierFlow$Flow" ∈ zTb) (hAO : va_AO "BarrierFlow$Flow" s) (hn : ¬ n < 0) (hN : n.toNatClampNeg = n9) (hb : n.toNatClampNeg * 4 ≤ 536870912) (hcells : cells + 1 ≤ R.cells) (hslots : slots + n9 ≤ R.slots) (hd : decode cc pc = .ok (.anewarray index, 3))
    (kk : zW p l e R s m args below meth c (cells + 1) (slots + n9) Q D Ca B nL (znew σ N (4, n9)) (N + 1) (pc + 3) lv (.ref N :: st)) : zW p l e R s m args below meth c cells slots Q D Ca B nL σ N pc lv (.int n :: st) := by
  intro H locs ls h hS hl
  subst hN
  refine W.anew C.1 C.2.1 C.2.2.2.2.1 (C.2.2.2.1 _ hcl) (va_AO.use hAO) rfl hd rfl hn hb hcells hslots fun cA kA comp f1 f2 f3 f4 => ?_
  obtain ⟨-, kA2, comp2, -, -, -, g4⟩ := C.2.2.2.2.2.1.2 3 _ rfl
  have hcA : cA = Ca 4 := Option.some.inj (f1.symm.trans g4)
  subst hcA
  have hN := h.1
  generalize hH1 : H.push ({ cls := Ca 4, slots := Array.replicate n.toNatClampNeg .null, vm := .none } : Cell) = H1
  have z1 : H1.size = N + 1 := by rw [← hH1, Array.size_push, hN]
  have e1 : H1[N]? = some (arrV (Ca 4) n.toNatClampNeg (fun _ => .null)) := by rw [← hH1, ← hN, Array.getElem?_push_size, ← arrV_new]
  have o1 : ∀ q : Nat, q < N → H1[q]? = H[q]? := fun q hq => by rw [← hH1, Array.getElem?_push, if_neg (by omega)]
  rw [hN]
  refine kk H1 locs ls (zH_new h z1 o1 (fun e9 he => ?_)) (zS_new hS h.1 z1 o1) hl
  have he2 := zent_4 (Ca := Ca) (σ := znew σ N (4, n.toNatClampNeg)) (a := N) (by rw [znew_k])
  rw [he2] at he
  cases he
  show H1[N]? = some (vp_cell _ _)
  have e3 : (znew σ N (4, n.toNatClampNeg)).2.2.1 N = fun _ => none := if_pos rfl
  rw [vp_cell_q, e3, znew_k]
  exact e1
/-- a final field, in the constructor -/
theorem z_putF (C : zC p s m args meth c cc own nL D Ca B En) (hini : meth.name = "<init>") {Cn ref : String} {T : u_T} {Nf k j index a : Nat} {τ : zS} {b : Nat} {cn : FieldType} (hv : zpR k j σ a (some b) = some τ) (hc : vwCl[k]? = some (Cn, T, Nf)) (hN : Nf = znf k) (hin : ∀ w ∈ u_ws Cn T Nf, w ∈ zTb) (hj : j < Nf) (hlink : Cond.fieldLink own index ref (T j).2.1 (T j).2.2.1 ∈ zTb) (href : (T j).1 = ref) (ty0 : Nat → FieldType) (hty : ∀ k, k < Nf → parseFieldDescriptor (T k).2.2.1 = some (ty0 k)) (hnm : ∀ a, a < Nf → ∀ b, b < Nf → a ≠ b → (T a).2.1 ≠ (T b).2.1) (hfin : (T j).2.2.2 = true) (hdecl : (T j).1 = own) (hdd : parseFieldDescriptor (T j).2.2.1 = some cn) (hnar : narrow cn (.ref b) = .ref b) (hfit : fits cn (.ref b) = true) (hr : (zrt k).contains j = true) (hd : decode cc pc = .ok (.putfield index, 3)) (kk : zW p l e R s m args below meth c cells slots Q D Ca B nL τ N (pc + 3) lv st) : zW p l e R s m args below meth c cells slots Q D Ca B nL σ N pc lv (.ref b :: .ref a :: st) := by
  unfold zpR at hv
  by_cases hk : (σ.1 a).1 = k + 5
  case neg => rw [if_neg hk] at hv; cases hv
  rw [if_pos hk] at hv
  cases hv
  intro H locs ls h hS hl
  have hat := h.2.2 a _ (zent_obj hk)
  have hap := va_apart (own := own) C.2.2.2.1 hin ty0 hty hnm C.2.2.2.2.2.1 hc
  obtain ⟨r, h1, cell, q1, q2, q3, q4⟩ := hat.2
  have hr9 : r = (Cn, T, Nf) := Option.some.inj (h1.symm.trans hc)
  subst hr9
  obtain ⟨hSl, hfc, kC, hkC, hkind⟩ := C.2.2.2.2.2.1.1 k _ hc
  obtain ⟨cf, kf, fi, f, hi, hsl⟩ := hSl j hj
  have hlay := C.2.2.2.1 _ (hin _ (u_in_lay hj))
  unfold u_lay at hlay
  rw [if_pos hfin] at hlay
  have hst := (u_facts hfc hkC (u_lays C.2.2.2.1 hin hj) hi).1
  have hcf : m.cls = cf := by
    obtain ⟨_, _, c', _, _, _, -, -, hf', -, -, -, hown2, -⟩ := Cond.laysFinal_spec hlay
    have e1 : c' = cf := by have := hi.symm.trans hf'; simp at this; exact this.1.symm
    rw [hdecl] at hown2
    rw [← e1]; exact Option.some.inj (C.2.2.2.2.1.symm.trans hown2)
  have h6 := u_fits hfc hkC hkind (Or.inr hlay) hi hdd hnar hfit
  subst href
  refine W.putFinK C.1 C.2.1 C.2.2.2.2.1 (C.2.2.2.1 _ hlink) hi hst hcf hini (by rw [q2]; exact h6) q1 q3 (by rw [hsl]; exact k2_hasslot (q4 j hj)) rfl rfl hd fun H' e1 e2 e3 => ?_
  rw [hsl] at e1 ⊢
  refine kk H' _ ls (zH_upd h hat.1 (zent_obj (σ := zuR σ a j (some b)) (by exact hk)) (fun b2 hb => zuR_off hb) e2 ?_ e3) (zS_upd hS e2 e3 hat.1) hl
  refine ⟨_, hc, t_OB.to (V := updV (vp_V (zfs k σ a)) j (.ref b)) ⟨_, e1, q2, q3, t_set q4 hap hj _⟩ (fun i _ => ?_)⟩
  rw [zfs_setR σ a (some b) hr]
  exact vp_updV_set (by rw [zfs_len, ← hN]; exact hj) _ i
/-- a flow is put into a row -/
theorem z_sR (C : zC p s m args meth c cc own nL D Ca B En) {a b : Nat} {i : Int32} {τ : zS} (hv : zsR σ a i b = some τ) (hd : decode cc pc = .ok (.aastore, 1)) (kk : zW p l e R s m args below meth c cells slots Q D Ca B nL τ N (pc + 1) lv st) : zW p l e R s m args below meth c cells slots Q D Ca B nL σ N pc lv (.ref b :: .int i :: .ref a :: st) := by
  unfold zsR at hv
  by_cases hk : (σ.1 a).1 = 4 ∧ (σ.1 b).1 = 6
  case neg => rw [if_neg hk] at hv; cases hv
  rw [if_pos hk] at hv
  by_cases hi : i < 0 ∨ (σ.1 a).2 ≤ i.toNatClampNeg
  · rw [if_pos hi] at hv; cases hv
  rw [if_neg hi] at hv
  cases hv
  intro H locs ls h hS hl
  have hat := h.2.2 a _ (zent_4 hk.1)
  have hbt := h.2.2 b _ (zent_obj (k := 1) hk.2)
  obtain ⟨r', hr', cellV, g1, g2, g3, -⟩ := hbt.2
  have hcls := (C.2.2.2.2.2.1.1 1 _ rfl).2
  obtain ⟨kA, comp, k1, k2, k3, -⟩ := (C.2.2.2.2.2.1.2 3 _ rfl).2
  have hcomp : comp = D.1 1 := Option.some.inj (k3.symm.trans hcls.1)
  subst hcomp
  obtain ⟨kC, hkC, -⟩ := hcls.2
  refine W.aast C.1 C.2.1 hat.2 (fun q h => by cases h) (fun h => by cases h) k1 k2 rfl hkC ⟨fun q => hi (Or.inl q), by show _ < (arrV _ _ _).slots.size; rw [arrV_size]; exact Nat.not_le.mp (fun q => hi (Or.inr q))⟩ g1 (fun q h => by rw [g3] at h; cases h) (by rw [g2]; exact hkC) (by rw [g2]; exact va_assign hcls) rfl rfl hd fun H1 e1 z oq => ?_
  refine kk H1 _ ls (zH_upd h hat.1 (zent_4 (σ := zuR σ a i.toNatClampNeg (some b)) (by exact hk.1)) (fun b2 hb => zuR_off hb) z ?_ oq) (zS_upd hS z oq hat.1) hl
  show H1[a]? = some (vp_cell _ _)
  rw [e1]
  rw [vp_cell_q, vp_cell_q, arrV_store]
  congr 2
  funext q
  by_cases hq : q = i.toNatClampNeg
  · subst hq
    simp [updV, zuR, zu, va_rf]
  · simp [updV, zuR, zu, hq]
theorem z_objInit (C : zC p s m args meth c cc own nL D Ca B En) {index a : Nat} (hlink : Cond.methodLink own index Lib.objectInit ∈ zTb) (hinst : Cond.instanceMethod Lib.objectInit ∈ zTb) (hcode : Cond.code Lib.objectInit ⟨#[0xb1]⟩ 1 none ∈ zTb) (hF : 1 ≤ R.frames) (hL : 20 ≤ R.locals) (hcat : (st.map fun v => v.category).sum ≤ 8) (hd : decode cc pc = .ok (.invokespecial index, 3)) (kk : zW p l e R s m args below meth c cells slots Q D Ca B nL σ N (pc + 3) lv st) : zW p l e R s m args below meth c cells slots Q D Ca B nL σ N pc lv (.ref a :: st) := fun H locs ls h hS hl =>
  W.objInit C.1 C.2.1 C.2.2.2.2.1 (C.2.2.2.1 _ hlink) (C.2.2.2.1 _ hinst) (C.2.2.2.1 _ hcode) rfl (hl.1.trans C.2.2.1.symm) rfl hd hF (Nat.le_trans (Nat.add_le_add_right (lv_room (m := m) (pc := pc) (ls := ls) (rest := st) hcat) 12) hL) (kk H locs ls h hS hl)
/-- a constructor is called -/
theorem z_callN (C : zC p s m args meth c cc own nL D Ca B En) {y : MethodName} {bytes : ByteArray} {mL F L mc ms index n b : Nat} {As : List Value} {τ : zS} {stk : List Value} (hM : zMn l D Ca B En y bytes mL F L mc ms (.ref b :: As) σ N τ) (hcode : Cond.code y bytes mL none ∈ zTb) (hini : Cond.initialized y.cls ∈ zTb) (hlink : Cond.methodLink own index y ∈ zTb) (hnm : y.name = "<init>") (hinst : Cond.instanceMethod y ∈ zTb) (hy : y.cls ≠ "java/lang/invoke/MethodHandle" ∧ y.cls ≠ "java/lang/invoke/VarHandle" ∧ (parseMethodDescriptor y.desc).map (fun d => d.parameters.length) = some n) (hF : F + 1 ≤ R.frames) (hL : 8 + (mL + 11) + L ≤ R.locals) (hn : As.length = n) (hstk : stk = As.reverse ++ .ref b :: st) (hcat : (st.map fun v => v.category).sum ≤ 8) (hd : decode cc pc = .ok (.invokespecial index, 3)) (h1 : cells + mc ≤ R.cells) (h6 : slots + ms ≤ R.slots) (kk : zW p l e R s m args below meth c (cells + mc) (slots + ms) Q D Ca B nL τ (N + mc) (pc + 3) lv st) : zW p l e R s m args below meth c cells slots Q D Ca B nL σ N pc lv stk := by
  intro H locs ls h hS hl
  refine va_callv (va_runI (As := As) (rest := st) ⟨C.1, C.2.1, C.2.2.1, C.2.2.2.2.1, C.2.2.2.1⟩ hM ⟨callB_of n C.2.2.2.1 (zGood hcode) rfl rfl rfl (C.2.2.2.1 _ hini) (C.2.2.2.1 _ hlink) hy ⟨hF, hL⟩, hnm, C.2.2.2.1 _ hinst⟩ ⟨zBlind C.2.2.2.2.2.2.2.1, fun U hU hW => ⟨rfl, zIn_of C h hS hU hW⟩⟩ rfl hn hl.1 hstk (lv_room hcat) hd ⟨h1, h6⟩) hS (fun q _ h => h) (fun q h => h) (fun u t H1 locs1 ht hvm hp hB hz hk1 hS1 => ?_)
  exact kk H1 locs1 ls (by rw [← ht]; exact hB.1) hS1 hl
theorem z_callNN (C : zC p s m args meth c cc own nL D Ca B En) {host : String} {y : MethodName} {bytes : ByteArray} {mL F L mc ms index n b : Nat} {As : List Value} {τ : zS} {stk : List Value} (hM : zMn l D Ca B En y bytes mL F L mc ms (.ref b :: As) σ N τ) (hcode : Cond.code y bytes mL none ∈ zTb) (hini : Cond.initialized y.cls ∈ zTb) (hlink : (own, index, y, host) ∈ zNsM) (hnm : y.name = "<init>") (hinst : Cond.instanceMethod y ∈ zTb) (hy : y.cls ≠ "java/lang/invoke/MethodHandle" ∧ y.cls ≠ "java/lang/invoke/VarHandle" ∧ (parseMethodDescriptor y.desc).map (fun d => d.parameters.length) = some n) (hF : F + 1 ≤ R.frames) (hL : 8 + (mL + 11) + L ≤ R.locals) (hn : As.length = n) (hstk : stk = As.reverse ++ .ref b :: st) (hcat : (st.map fun v => v.category).sum ≤ 8) (hd : decode cc pc = .ok (.invokespecial index, 3)) (h1 : cells + mc ≤ R.cells) (h6 : slots + ms ≤ R.slots) (kk : zW p l e R s m args below meth c (cells + mc) (slots + ms) Q D Ca B nL τ (N + mc) (pc + 3) lv st) : zW p l e R s m args below meth c cells slots Q D Ca B nL σ N pc lv stk := by
  intro H locs ls h hS hl
  refine va_callv (va_runIN (host := host) (As := As) (rest := st) ⟨C.1, C.2.1, C.2.2.1, C.2.2.2.2.1, C.2.2.2.1⟩ hM ⟨va_cnB n C.2.2.2.1 (zGood hcode) rfl rfl rfl (C.2.2.2.2.2.2.2.2.2.2.1 _ hlink) (C.2.2.2.1 _ hini) hy ⟨hF, hL⟩, hnm, C.2.2.2.1 _ hinst⟩ ⟨zBlind C.2.2.2.2.2.2.2.1, fun U hU hW => ⟨rfl, zIn_of C h hS hU hW⟩⟩ rfl hn hl.1 hstk (lv_room hcat) hd ⟨h1, h6⟩) hS (fun q _ h => h) (fun q h => h) (fun u t H1 locs1 ht hvm hp hB hz hk1 hS1 => ?_)
  exact kk H1 locs1 ls (by rw [← ht]; exact hB.1) hS1 hl
theorem zfin_n (C : zC p s m args meth c cc own nL D Ca B En) {N0 mc ms : Nat} (hr : meth.sig.returnType = none) (hN : N = N0 + mc) (hc : cells ≤ mc) (hs : slots ≤ ms) (hd : decode cc pc = .ok (.return_, 1)) : zW p l e R s m args below meth c cells slots (MQ below (va_Qv (fun (_ : Unit) => True) (fun _ => zIn D Ca B En σ (N0 + mc)) (zA B)) args s mc ms (zA B)) D Ca B nL σ N pc lv [] := by
  subst hN
  exact fun H locs ls h hS hl => W.widen hc hs (W.vret C.1 C.2.1 hr (fun t ht hW => ⟨⟨(), rfl, trivial, zIn_of C h hS ht hW⟩, hS.F ht⟩) hS.2.2 hd C.2.2.2.2.2.2.2.2.2.1)
end ZN
theorem zMet_n {l : Launch} {D : va_G} {Ca : Nat → ClassId} {B : Nat} {En : State → Prop} (hE : zEk B En) {y : MethodName} {own : String} {bytes : ByteArray} {mL : Nat} {F L mc ms : Nat} {as : List Value} {σ τ : zS} {N : Nat} (hy : plainName y.cls = true) (ho : y.cls = own) (hnm : y.name = "<init>") (hm : (lg_sl as).length ≤ mL)
    (body : ∀ (p : Program) (e : Env) (s : State) (m : MethodId) (args : Array Value) (below : List Frame) (meth : Method) (c : Code), zC p s m args meth c bytes own mL D Ca B En → meth.sig.returnType = none → meth.name = "<init>" → zW p l e (zRoomN F L mc ms) s m args below meth c 0 0 (MQ below (va_Qv (fun (_ : Unit) => True) (fun _ => zIn D Ca B En τ (N + mc)) (zA B)) args s mc ms (zA B)) D Ca B mL σ N 0 (lv_args 0 as) []) : zMn l D Ca B En y bytes mL F L mc ms as σ N τ := by
  refine Met.ofW (cc := bytes) (maxL := mL) (ret := none) hy rfl ?_
  intro p e s m args below meth c s₁ X hml hv
  obtain ⟨rfl, hI⟩ := hv
  have hts := atoms_spec (ws := zWs y bytes mL none) X.pre
  have C : zC p s m as.toArray meth c bytes own mL D Ca B En := ⟨X.exec, X.bytes, hml, fun w hw => hts w (List.mem_cons_of_mem _ hw), by rw [← ho]; exact findClass_of_methodNamed X.named, hI.2.1, hI.2.2.1, hE, by rw [hI.1.1]; exact hI.1.2.1, X.notSynchronized, hI.2.2.2⟩
  have hl := lv_entry as (n := mL) hm
  rw [lg_entry_eq]
  exact body p e s m as.toArray below meth c C X.returns ((name_of_methodNamed X.named X.method).1.trans hnm) s.heap [] _ hI.1 va_S.rf hl
