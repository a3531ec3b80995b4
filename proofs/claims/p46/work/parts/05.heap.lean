/-! The heap's rows: what is read and written, as partial functions of the abstract heap. -/
def zu {α : Type} (f : Nat → Nat → α) (a j : Nat) (v : α) : Nat → Nat → α := fun b i => if b = a ∧ i = j then v else f b i
def zuI (σ : zS) (a j : Nat) (v : Int32) : zS := (σ.1, zu σ.2.1 a j v, σ.2.2)
def zuR (σ : zS) (a j : Nat) (r : Option Nat) : zS := (σ.1, σ.2.1, zu σ.2.2.1 a j r, σ.2.2.2)
def zuJ (σ : zS) (a j : Nat) (v : Int64) : zS := (σ.1, σ.2.1, σ.2.2.1, zu σ.2.2.2 a j v)
def zgI (k j : Nat) (σ : zS) (a : Nat) : Option Int32 := if (σ.1 a).1 = k + 5 then some (σ.2.1 a j) else none
def zgR (k j : Nat) (σ : zS) (a : Nat) : Option Nat := if (σ.1 a).1 = k + 5 then σ.2.2.1 a j else none
def zpI (k j : Nat) (σ : zS) (a : Nat) (v : Int32) : Option zS := if (σ.1 a).1 = k + 5 then some (zuI σ a j v) else none
def zpZ (k j : Nat) (σ : zS) (a : Nat) (v : Int32) : Option zS := if (σ.1 a).1 = k + 5 ∧ (v = 0 ∨ v = 1) then some (zuI σ a j v) else none
def zpR (k j : Nat) (σ : zS) (a : Nat) (r : Option Nat) : Option zS := if (σ.1 a).1 = k + 5 then some (zuR σ a j r) else none
def zaI (σ : zS) (a : Nat) (i : Int32) : Option Int32 := if (σ.1 a).1 = 1 then (if i < 0 ∨ (σ.1 a).2 ≤ i.toNatClampNeg then none else some (σ.2.1 a i.toNatClampNeg)) else none
def zaB (σ : zS) (a : Nat) (i : Int32) : Option Int32 := if (σ.1 a).1 = 2 then (if i < 0 ∨ (σ.1 a).2 ≤ i.toNatClampNeg then none else some (σ.2.1 a i.toNatClampNeg)) else none
def zaJ (σ : zS) (a : Nat) (i : Int32) : Option Int64 := if (σ.1 a).1 = 3 then (if i < 0 ∨ (σ.1 a).2 ≤ i.toNatClampNeg then none else some (σ.2.2.2 a i.toNatClampNeg)) else none
def zaR (σ : zS) (a : Nat) (i : Int32) : Option (Option Nat) := if (σ.1 a).1 = 4 then (if i < 0 ∨ (σ.1 a).2 ≤ i.toNatClampNeg then none else some (σ.2.2.1 a i.toNatClampNeg)) else none
def zsI (σ : zS) (a : Nat) (i v : Int32) : Option zS := if (σ.1 a).1 = 1 then (if i < 0 ∨ (σ.1 a).2 ≤ i.toNatClampNeg then none else some (zuI σ a i.toNatClampNeg v)) else none
def zsB (σ : zS) (a : Nat) (i v : Int32) : Option zS := if (σ.1 a).1 = 2 then (if i < 0 ∨ (σ.1 a).2 ≤ i.toNatClampNeg then none else some (zuI σ a i.toNatClampNeg v.toInt8.toInt32)) else none
def zsJ (σ : zS) (a : Nat) (i : Int32) (v : Int64) : Option zS := if (σ.1 a).1 = 3 then (if i < 0 ∨ (σ.1 a).2 ≤ i.toNatClampNeg then none else some (zuJ σ a i.toNatClampNeg v)) else none
def zsR (σ : zS) (a : Nat) (i : Int32) (b : Nat) : Option zS := if (σ.1 a).1 = 4 ∧ (σ.1 b).1 = 6 then (if i < 0 ∨ (σ.1 a).2 ≤ i.toNatClampNeg then none else some (zuR σ a i.toNatClampNeg (some b))) else none
def zlen (σ : zS) (a : Nat) : Option Int32 := if (σ.1 a).1 = 0 ∨ 4 < (σ.1 a).1 then none else some (Int32.ofNat (σ.1 a).2)
theorem zbind {α β : Type} {o : Option α} {f : α → Option β} {x : β} (h : o.bind f = some x) : ∃ v, o = some v ∧ f v = some x := by
  cases o with
  | none => cases h
  | some v => exact ⟨v, rfl, h⟩
theorem zent_obj {Ca : Nat → ClassId} {σ : zS} {a k : Nat} (h : (σ.1 a).1 = k + 5) : zent Ca σ a = some (.inr (k, zfs k σ a)) := by
  unfold zent; rw [h]
theorem zent_1 {Ca : Nat → ClassId} {σ : zS} {a : Nat} (h : (σ.1 a).1 = 1) : zent Ca σ a = some (.inl (Ca 1, (σ.1 a).2, .inl (σ.2.1 a))) := by
  unfold zent; rw [h]
theorem zent_2 {Ca : Nat → ClassId} {σ : zS} {a : Nat} (h : (σ.1 a).1 = 2) : zent Ca σ a = some (.inl (Ca 2, (σ.1 a).2, .inl (σ.2.1 a))) := by
  unfold zent; rw [h]
theorem zent_3 {Ca : Nat → ClassId} {σ : zS} {a : Nat} (h : (σ.1 a).1 = 3) : zent Ca σ a = some (.inl (Ca 3, (σ.1 a).2, .inl (σ.2.1 a))) := by
  unfold zent; rw [h]
theorem zent_4 {Ca : Nat → ClassId} {σ : zS} {a : Nat} (h : (σ.1 a).1 = 4) : zent Ca σ a = some (.inl (Ca 4, (σ.1 a).2, .inr (.inr (.inr (.inr (σ.2.2.1 a)))))) := by
  unfold zent; rw [h]
theorem zfs_len (k : Nat) (σ : zS) (a : Nat) : (zfs k σ a).length = znf k := by simp [zfs]
theorem zfs_get {k j : Nat} (σ : zS) (a : Nat) (hj : j < znf k) : (zfs k σ a)[j]? = some (zfd k σ a j) := by
  simp [zfs, hj]
/-- two heaps that agree at an address have one entry there -/
theorem zent_off {Ca : Nat → ClassId} {σ τ : zS} {b : Nat} (h1 : τ.1 b = σ.1 b) (h2 : τ.2.1 b = σ.2.1 b) (h3 : τ.2.2.1 b = σ.2.2.1 b) (h4 : τ.2.2.2 b = σ.2.2.2 b) : zent Ca τ b = zent Ca σ b := by
  have h5 : ∀ k, zfs k τ b = zfs k σ b := fun k => by
    unfold zfs
    refine List.map_congr_left (fun j _ => ?_)
    unfold zfd
    rw [h2, h3]
  unfold zent
  rw [h1, h2, h3]
  split <;> first | rfl | simp [h5]
theorem zu_at {α : Type} (f : Nat → Nat → α) (a j : Nat) (v : α) : zu f a j v a = va_up (f a) j v := by
  funext i
  simp [zu, va_up]
theorem zu_off {α : Type} (f : Nat → Nat → α) {a b : Nat} (j : Nat) (v : α) (h : b ≠ a) : zu f a j v b = f b := by
  funext i
  simp [zu, h]
theorem zuI_off {Ca : Nat → ClassId} {σ : zS} {a b j : Nat} {v : Int32} (h : b ≠ a) : zent Ca (zuI σ a j v) b = zent Ca σ b := zent_off rfl (zu_off _ _ _ h) rfl rfl
theorem zuR_off {Ca : Nat → ClassId} {σ : zS} {a b j : Nat} {v : Option Nat} (h : b ≠ a) : zent Ca (zuR σ a j v) b = zent Ca σ b := zent_off rfl rfl (zu_off _ _ _ h) rfl
theorem zuJ_off {Ca : Nat → ClassId} {σ : zS} {a b j : Nat} {v : Int64} (h : b ≠ a) : zent Ca (zuJ σ a j v) b = zent Ca σ b := zent_off rfl rfl rfl (zu_off _ _ _ h)
/-- one cell is written -/
theorem zH_upd {D : va_G} {Ca : Nat → ClassId} {B N a : Nat} {σ τ : zS} {H H1 : Heap} {e : va_E} (h : zH D Ca B σ N H) (h0 : B ≤ a) (h2 : zent Ca τ a = some e) (h3 : ∀ b, b ≠ a → zent Ca τ b = zent Ca σ b) (hz : H1.size = H.size) (ha : va_at D vwCl (a, e) H1) (oq : ∀ q, q ≠ a → H1[q]? = H[q]?) : zH D Ca B τ N H1 := by
  refine ⟨hz.trans h.1, h.2.1, fun b f hb => ?_⟩
  by_cases hq : b = a
  · subst hq
    cases h2.symm.trans hb
    exact ⟨h0, ha⟩
  · rw [h3 b hq] at hb
    exact ⟨(h.2.2 b f hb).1, (h.2.2 b f hb).2.kept (oq b hq)⟩
theorem zS_upd {B a k : Nat} {H0 H H1 : Heap} {locs : List Loc} (h : va_S (fun q : Nat => B ≤ q) H0 H locs) (z : H1.size = H.size) (oq : ∀ q : Nat, q ≠ a → H1[q]? = H[q]?) (ha : B ≤ a) : va_S (fun q : Nat => B ≤ q) H0 H1 (locs ++ [⟨a, k⟩]) := va_S.put h z oq ha

section ZR
variable {p : Program} {l : Launch} {e : Env} {R : Room} {s : State} {m : MethodId} {args : Array Value} {below : List Frame} {meth : Method} {c : Code} {cells slots : Nat} {Q : State → Prop} {D : va_G} {Ca : Nat → ClassId} {B nL : Nat} {En : State → Prop} {cc : ByteArray} {own : String} {σ : zS} {N pc : Nat} {lv : List (Nat × Value)} {st : List Value}

theorem z_get (C : zC p s m args meth c cc own nL D Ca B En) {Cn ref : String} {T : u_T} {Nf k j index a : Nat} (hc : vwCl[k]? = some (Cn, T, Nf)) (hN : Nf = znf k) (hin : ∀ w ∈ u_ws Cn T Nf, w ∈ zTb) (hj : j < Nf) (hlink : Cond.fieldLink own index ref (T j).2.1 (T j).2.2.1 ∈ zTb) (href : (T j).1 = ref) (hk : (σ.1 a).1 = k + 5) (hd : decode cc pc = .ok (.getfield index, 3)) (kk : zW p l e R s m args below meth c cells slots Q D Ca B nL σ N (pc + 3) (lv) (zfd k σ a j :: st)) : zW p l e R s m args below meth c cells slots Q D Ca B nL σ N (pc) (lv) (.ref a :: st) := by
  intro H locs ls h hS hl
  have hP : va_P D vwCl [(a, .inr (k, zfs k σ a))] H := fun i q hq => by
    match i, hq with
    | 0, hq => cases hq; exact (h.2.2 a _ (zent_obj hk)).2
  subst href
  exact va_get (D := D) (ci := k) C.1 C.2.1 C.2.2.2.1 hin C.2.2.2.2.1 C.2.2.2.2.2.1 hP 0 rfl hc j hj (C.2.2.2.1 _ hlink) (fun _ h9 => h9) (zfs_get σ a (by rw [← hN]; exact hj)) hd (kk H locs ls h hS hl)
theorem z_gI (C : zC p s m args meth c cc own nL D Ca B En) {Cn ref : String} {T : u_T} {Nf k j index a : Nat} {v : Int32} (hv : zgI k j σ a = some v) (hc : vwCl[k]? = some (Cn, T, Nf)) (hN : Nf = znf k) (hin : ∀ w ∈ u_ws Cn T Nf, w ∈ zTb) (hj : j < Nf) (hlink : Cond.fieldLink own index ref (T j).2.1 (T j).2.2.1 ∈ zTb) (href : (T j).1 = ref) (hr : (zrt k).contains j = false) (hd : decode cc pc = .ok (.getfield index, 3)) (kk : zW p l e R s m args below meth c cells slots Q D Ca B nL σ N (pc + 3) (lv) (.int v :: st)) : zW p l e R s m args below meth c cells slots Q D Ca B nL σ N (pc) (lv) (.ref a :: st) := by
  unfold zgI at hv
  by_cases hk : (σ.1 a).1 = k + 5
  · rw [if_pos hk] at hv
    cases hv
    refine z_get C hc hN hin hj hlink href hk hd ?_
    have e : zfd k σ a j = .int (σ.2.1 a j) := by unfold zfd; rw [if_neg (by rw [hr]; decide)]
    rw [e]
    exact kk
  · rw [if_neg hk] at hv; cases hv
theorem z_gR (C : zC p s m args meth c cc own nL D Ca B En) {Cn ref : String} {T : u_T} {Nf k j index a : Nat} {v : Nat} (hv : zgR k j σ a = some v) (hc : vwCl[k]? = some (Cn, T, Nf)) (hN : Nf = znf k) (hin : ∀ w ∈ u_ws Cn T Nf, w ∈ zTb) (hj : j < Nf) (hlink : Cond.fieldLink own index ref (T j).2.1 (T j).2.2.1 ∈ zTb) (href : (T j).1 = ref) (hr : (zrt k).contains j = true) (hd : decode cc pc = .ok (.getfield index, 3)) (kk : zW p l e R s m args below meth c cells slots Q D Ca B nL σ N (pc + 3) (lv) (.ref v :: st)) : zW p l e R s m args below meth c cells slots Q D Ca B nL σ N (pc) (lv) (.ref a :: st) := by
  unfold zgR at hv
  by_cases hk : (σ.1 a).1 = k + 5
  · rw [if_pos hk] at hv
    refine z_get C hc hN hin hj hlink href hk hd ?_
    have e : zfd k σ a j = .ref v := by unfold zfd; rw [if_pos hr, hv]; rfl
    rw [e]
    exact kk
  · rw [if_neg hk] at hv; cases hv
theorem z_put (C : zC p s m args meth c cc own nL D Ca B En) {Cn ref : String} {T : u_T} {Nf k j index a : Nat} {τ : zS} (hc : vwCl[k]? = some (Cn, T, Nf)) (hN : Nf = znf k) (hin : ∀ w ∈ u_ws Cn T Nf, w ∈ zTb) (hj : j < Nf) (hlink : Cond.fieldLink own index ref (T j).2.1 (T j).2.2.1 ∈ zTb) (href : (T j).1 = ref) (ty0 : Nat → FieldType) (hty : ∀ k, k < Nf → parseFieldDescriptor (T k).2.2.1 = some (ty0 k)) (hnm : ∀ a, a < Nf → ∀ b, b < Nf → a ≠ b → (T a).2.1 ≠ (T b).2.1) (hfin : (T j).2.2.2 = false) {ty : FieldType} {v : Value} (hdd : parseFieldDescriptor (T j).2.2.1 = some ty) (hn : narrow ty v = v) (hfit : fits ty v = true) (hk : (σ.1 a).1 = k + 5) (hk2 : (τ.1 a).1 = k + 5) (hset : zfs k τ a = (zfs k σ a).set j v) (hoff : ∀ b, b ≠ a → zent Ca τ b = zent Ca σ b) (hd : decode cc pc = .ok (.putfield index, 3)) (kk : zW p l e R s m args below meth c cells slots Q D Ca B nL τ N (pc + 3) (lv) (st)) : zW p l e R s m args below meth c cells slots Q D Ca B nL σ N (pc) (lv) (v :: .ref a :: st) := by
  intro H locs ls h hS hl
  have hat := h.2.2 a _ (zent_obj hk)
  have hap := va_apart (own := own) C.2.2.2.1 hin ty0 hty hnm C.2.2.2.2.2.1 hc
  obtain ⟨r, h1, cell, q1, q2, q3, q4⟩ := hat.2
  have hr : r = (Cn, T, Nf) := Option.some.inj (h1.symm.trans hc)
  subst hr
  obtain ⟨hSl, hfc, kC, hkC, hkind⟩ := C.2.2.2.2.2.1.1 k _ hc
  obtain ⟨cf, kf, fi, f, hi, hsl⟩ := hSl j hj
  have hlay := C.2.2.2.1 _ (hin _ (u_in_lay hj))
  unfold u_lay at hlay
  rw [if_neg (by rw [hfin]; decide)] at hlay
  have hst := (u_facts hfc hkC (u_lays C.2.2.2.1 hin hj) hi).1
  have h6 := u_store hfc hkC hkind hlay hi hdd hn hfit
  subst href
  refine W.putK C.1 C.2.1 (f := f) ⟨C.2.2.2.2.1, C.2.2.2.1 _ hlink, ⟨_, _, _, hi⟩, hst⟩ (by rw [q2]; exact h6) q1 q3 (by rw [hsl]; exact k2_hasslot (q4 j hj)) rfl rfl hd fun H' e1 e2 e3 => ?_
  rw [hsl] at e1 ⊢
  refine kk H' _ ls (zH_upd h hat.1 (zent_obj hk2) hoff e2 ?_ e3) (zS_upd hS e2 e3 hat.1) hl
  refine ⟨_, hc, t_OB.to (V := updV (vp_V (zfs k σ a)) j v) ⟨_, e1, q2, q3, t_set q4 hap hj v⟩ (fun i _ => ?_)⟩
  rw [hset]
  exact vp_updV_set (by rw [zfs_len, ← hN]; exact hj) v i
end ZR
theorem zfs_none {k j : Nat} (σ : zS) (a : Nat) (hj : ¬ j < znf k) : (zfs k σ a)[j]? = none := by
  simp [zfs, Nat.not_lt.mp hj]
theorem zfs_setI {k j : Nat} (σ : zS) (a : Nat) (v : Int32) (hr : (zrt k).contains j = false) : zfs k (zuI σ a j v) a = (zfs k σ a).set j (.int v) := by
  apply List.ext_getElem?
  intro i
  rw [List.getElem?_set, zfs_len]
  by_cases h2 : i < znf k
  · rw [zfs_get _ _ h2, zfs_get _ _ h2]
    by_cases h : j = i
    · subst h
      rw [if_pos rfl, if_pos h2]
      unfold zfd
      rw [if_neg (by rw [hr]; decide)]
      simp [zuI, zu]
    · rw [if_neg h]
      unfold zfd
      simp [zuI, zu, Ne.symm h]
  · rw [zfs_none _ _ h2, zfs_none _ _ h2]
    by_cases h : j = i
    · subst h
      rw [if_pos rfl, if_neg h2]
    · rw [if_neg h]
theorem zfs_setR {k j : Nat} (σ : zS) (a : Nat) (v : Option Nat) (hr : (zrt k).contains j = true) : zfs k (zuR σ a j v) a = (zfs k σ a).set j (va_rf v) := by
  apply List.ext_getElem?
  intro i
  rw [List.getElem?_set, zfs_len]
  by_cases h2 : i < znf k
  · rw [zfs_get _ _ h2, zfs_get _ _ h2]
    by_cases h : j = i
    · subst h
      rw [if_pos rfl, if_pos h2]
      unfold zfd
      rw [if_pos hr]
      simp [zuR, zu]
    · rw [if_neg h]
      unfold zfd
      simp [zuR, zu, Ne.symm h]
  · rw [zfs_none _ _ h2, zfs_none _ _ h2]
    by_cases h : j = i
    · subst h
      rw [if_pos rfl, if_neg h2]
    · rw [if_neg h]
theorem zn_boolean {v : Int32} (h : v = 0 ∨ v = 1) : narrow .boolean (.int v) = .int v ∧ fits .boolean (.int v) = true := by
  rcases h with rfl | rfl <;> exact ⟨by decide +kernel, by decide +kernel⟩

section ZR
variable {p : Program} {l : Launch} {e : Env} {R : Room} {s : State} {m : MethodId} {args : Array Value} {below : List Frame} {meth : Method} {c : Code} {cells slots : Nat} {Q : State → Prop} {D : va_G} {Ca : Nat → ClassId} {B nL : Nat} {En : State → Prop} {cc : ByteArray} {own : String} {σ : zS} {N pc : Nat} {lv : List (Nat × Value)} {st : List Value}

theorem z_pI (C : zC p s m args meth c cc own nL D Ca B En) {Cn ref : String} {T : u_T} {Nf k j index a : Nat} {τ : zS} {v : Int32} (hv : zpI k j σ a v = some τ) (hc : vwCl[k]? = some (Cn, T, Nf)) (hN : Nf = znf k) (hin : ∀ w ∈ u_ws Cn T Nf, w ∈ zTb) (hj : j < Nf) (hlink : Cond.fieldLink own index ref (T j).2.1 (T j).2.2.1 ∈ zTb) (href : (T j).1 = ref) (ty0 : Nat → FieldType) (hty : ∀ k, k < Nf → parseFieldDescriptor (T k).2.2.1 = some (ty0 k)) (hnm : ∀ a, a < Nf → ∀ b, b < Nf → a ≠ b → (T a).2.1 ≠ (T b).2.1) (hfin : (T j).2.2.2 = false) (hdd : parseFieldDescriptor (T j).2.2.1 = some .int) (hr : (zrt k).contains j = false) (hd : decode cc pc = .ok (.putfield index, 3)) (kk : zW p l e R s m args below meth c cells slots Q D Ca B nL τ N (pc + 3) (lv) (st)) : zW p l e R s m args below meth c cells slots Q D Ca B nL σ N (pc) (lv) (.int v :: .ref a :: st) := by
  unfold zpI at hv
  by_cases hk : (σ.1 a).1 = k + 5
  · rw [if_pos hk] at hv
    cases hv
    exact z_put (τ := zuI σ a j v) C hc hN hin hj hlink href ty0 hty hnm hfin hdd rfl rfl hk hk (zfs_setI σ a v hr) (fun b hb => zuI_off hb) hd kk
  · rw [if_neg hk] at hv; cases hv
theorem z_pZ (C : zC p s m args meth c cc own nL D Ca B En) {Cn ref : String} {T : u_T} {Nf k j index a : Nat} {τ : zS} {v : Int32} (hv : zpZ k j σ a v = some τ) (hc : vwCl[k]? = some (Cn, T, Nf)) (hN : Nf = znf k) (hin : ∀ w ∈ u_ws Cn T Nf, w ∈ zTb) (hj : j < Nf) (hlink : Cond.fieldLink own index ref (T j).2.1 (T j).2.2.1 ∈ zTb) (href : (T j).1 = ref) (ty0 : Nat → FieldType) (hty : ∀ k, k < Nf → parseFieldDescriptor (T k).2.2.1 = some (ty0 k)) (hnm : ∀ a, a < Nf → ∀ b, b < Nf → a ≠ b → (T a).2.1 ≠ (T b).2.1) (hfin : (T j).2.2.2 = false) (hdd : parseFieldDescriptor (T j).2.2.1 = some .boolean) (hr : (zrt k).contains j = false) (hd : decode cc pc = .ok (.putfield index, 3)) (kk : zW p l e R s m args below meth c cells slots Q D Ca B nL τ N (pc + 3) (lv) (st)) : zW p l e R s m args below meth c cells slots Q D Ca B nL σ N (pc) (lv) (.int v :: .ref a :: st) := by
  unfold zpZ at hv
  by_cases hk : (σ.1 a).1 = k + 5 ∧ (v = 0 ∨ v = 1)
  · rw [if_pos hk] at hv
    cases hv
    exact z_put (τ := zuI σ a j v) C hc hN hin hj hlink href ty0 hty hnm hfin hdd (zn_boolean hk.2).1 (zn_boolean hk.2).2 hk.1 hk.1 (zfs_setI σ a v hr) (fun b hb => zuI_off hb) hd kk
  · rw [if_neg hk] at hv; cases hv
theorem z_pR (C : zC p s m args meth c cc own nL D Ca B En) {Cn ref : String} {T : u_T} {Nf k j index a : Nat} {τ : zS} {v : Nat} {cn : String} (hv : zpR k j σ a (some v) = some τ) (hc : vwCl[k]? = some (Cn, T, Nf)) (hN : Nf = znf k) (hin : ∀ w ∈ u_ws Cn T Nf, w ∈ zTb) (hj : j < Nf) (hlink : Cond.fieldLink own index ref (T j).2.1 (T j).2.2.1 ∈ zTb) (href : (T j).1 = ref) (ty0 : Nat → FieldType) (hty : ∀ k, k < Nf → parseFieldDescriptor (T k).2.2.1 = some (ty0 k)) (hnm : ∀ a, a < Nf → ∀ b, b < Nf → a ≠ b → (T a).2.1 ≠ (T b).2.1) (hfin : (T j).2.2.2 = false) (hdd : parseFieldDescriptor (T j).2.2.1 = some (.object cn)) (hr : (zrt k).contains j = true) (hd : decode cc pc = .ok (.putfield index, 3)) (kk : zW p l e R s m args below meth c cells slots Q D Ca B nL τ N (pc + 3) (lv) (st)) : zW p l e R s m args below meth c cells slots Q D Ca B nL σ N (pc) (lv) (.ref v :: .ref a :: st) := by
  unfold zpR at hv
  by_cases hk : (σ.1 a).1 = k + 5
  · rw [if_pos hk] at hv
    cases hv
    exact z_put (τ := zuR σ a j (some v)) C hc hN hin hj hlink href ty0 hty hnm hfin hdd rfl rfl hk hk (zfs_setR σ a (some v) hr) (fun b hb => zuR_off hb) hd kk
  · rw [if_neg hk] at hv; cases hv

theorem z_aI (C : zC p s m args meth c cc own nL D Ca B En) {a : Nat} {i : Int32} {v : Int32} (hv : zaI σ a i = some v) (hd : decode cc pc = .ok (.iaload, 1)) (kk : zW p l e R s m args below meth c cells slots Q D Ca B nL σ N (pc + 1) (lv) (.int v :: st)) : zW p l e R s m args below meth c cells slots Q D Ca B nL σ N (pc) (lv) (.int i :: .ref a :: st) := by
  unfold zaI at hv
  by_cases hk : (σ.1 a).1 = 1
  · rw [if_pos hk] at hv
    by_cases hi : i < 0 ∨ (σ.1 a).2 ≤ i.toNatClampNeg
    · rw [if_pos hi] at hv; cases hv
    · rw [if_neg hi] at hv
      cases hv
      intro H locs ls h hS hl
      have hP : va_P D vwCl [(a, .inl (Ca 1, (σ.1 a).2, .inl (σ.2.1 a)))] H := fun n q hq => by
        match n, hq with
        | 0, hq => cases hq; exact (h.2.2 a _ (zent_1 hk)).2
      exact va_iald (D := D) C.1 C.2.1 C.2.2.2.2.2.1 hP 0 0 rfl rfl hi hd (kk H locs ls h hS hl)
  · rw [if_neg hk] at hv; cases hv
theorem z_aB (C : zC p s m args meth c cc own nL D Ca B En) {a : Nat} {i : Int32} {v : Int32} (hv : zaB σ a i = some v) (hd : decode cc pc = .ok (.baload, 1)) (kk : zW p l e R s m args below meth c cells slots Q D Ca B nL σ N (pc + 1) (lv) (.int v :: st)) : zW p l e R s m args below meth c cells slots Q D Ca B nL σ N (pc) (lv) (.int i :: .ref a :: st) := by
  unfold zaB at hv
  by_cases hk : (σ.1 a).1 = 2
  · rw [if_pos hk] at hv
    by_cases hi : i < 0 ∨ (σ.1 a).2 ≤ i.toNatClampNeg
    · rw [if_pos hi] at hv; cases hv
    · rw [if_neg hi] at hv
      cases hv
      intro H locs ls h hS hl
      have hP : va_P D vwCl [(a, .inl (Ca 2, (σ.1 a).2, .inl (σ.2.1 a)))] H := fun n q hq => by
        match n, hq with
        | 0, hq => cases hq; exact (h.2.2 a _ (zent_2 hk)).2
      exact va_bald (D := D) C.1 C.2.1 C.2.2.2.2.2.1 hP 0 1 rfl rfl hi hd (kk H locs ls h hS hl)
  · rw [if_neg hk] at hv; cases hv
theorem z_aR (C : zC p s m args meth c cc own nL D Ca B En) {a : Nat} {i : Int32} {v : Option Nat} (hv : zaR σ a i = some v) (hd : decode cc pc = .ok (.aaload, 1)) (kk : zW p l e R s m args below meth c cells slots Q D Ca B nL σ N (pc + 1) (lv) (va_rf v :: st)) : zW p l e R s m args below meth c cells slots Q D Ca B nL σ N (pc) (lv) (.int i :: .ref a :: st) := by
  unfold zaR at hv
  by_cases hk : (σ.1 a).1 = 4
  · rw [if_pos hk] at hv
    by_cases hi : i < 0 ∨ (σ.1 a).2 ≤ i.toNatClampNeg
    · rw [if_pos hi] at hv; cases hv
    · rw [if_neg hi] at hv
      cases hv
      intro H locs ls h hS hl
      have hP : va_P D vwCl [(a, .inl (Ca 4, (σ.1 a).2, .inr (.inr (.inr (.inr (σ.2.2.1 a))))))] H := fun n q hq => by
        match n, hq with
        | 0, hq => cases hq; exact (h.2.2 a _ (zent_4 hk)).2
      exact va_aldq (D := D) C.1 C.2.1 C.2.2.2.2.2.1 hP 0 3 rfl rfl hi hd (kk H locs ls h hS hl)
  · rw [if_neg hk] at hv; cases hv
theorem z_alen (C : zC p s m args meth c cc own nL D Ca B En) {a : Nat} {v : Int32} (hv : zlen σ a = some v) (hd : decode cc pc = .ok (.arraylength, 1)) (kk : zW p l e R s m args below meth c cells slots Q D Ca B nL σ N (pc + 1) (lv) (.int v :: st)) : zW p l e R s m args below meth c cells slots Q D Ca B nL σ N (pc) (lv) (.ref a :: st) := by
  unfold zlen at hv
  by_cases hk : (σ.1 a).1 = 0 ∨ 4 < (σ.1 a).1
  · rw [if_pos hk] at hv; cases hv
  · rw [if_neg hk] at hv
    cases hv
    intro H locs ls h hS hl
    have ht : ∃ (cA : ClassId) (x : vp_A) (t0 : Nat) (ty : FieldType), zent Ca σ a = some (.inl (cA, x)) ∧ x.1 = (σ.1 a).2 ∧ (ztys Ca)[t0]? = some (cA, ty) := by
      rcases (show (σ.1 a).1 = 1 ∨ (σ.1 a).1 = 2 ∨ (σ.1 a).1 = 3 ∨ (σ.1 a).1 = 4 by omega) with q | q | q | q
      · exact ⟨_, _, 0, _, zent_1 q, rfl, rfl⟩
      · exact ⟨_, _, 1, _, zent_2 q, rfl, rfl⟩
      · exact ⟨_, _, 2, _, zent_3 q, rfl, rfl⟩
      · exact ⟨_, _, 3, _, zent_4 q, rfl, rfl⟩
    obtain ⟨cA, x, t0, ty, g1, g2, g3⟩ := ht
    have hP : va_P D vwCl [(a, .inl (cA, x))] H := fun n q hq => by
      match n, hq with
      | 0, hq => cases hq; exact (h.2.2 a _ g1).2
    exact va_alen (D := D) C.1 C.2.1 C.2.2.2.2.2.1 hP 0 t0 rfl g3 (by rw [g2]) hd (kk H locs ls h hS hl)
theorem z_sI (C : zC p s m args meth c cc own nL D Ca B En) {a : Nat} {i : Int32} {x : Int32} {τ : zS} (hv : zsI σ a i x = some τ) (hd : decode cc pc = .ok (.iastore, 1)) (kk : zW p l e R s m args below meth c cells slots Q D Ca B nL τ N (pc + 1) (lv) (st)) : zW p l e R s m args below meth c cells slots Q D Ca B nL σ N (pc) (lv) (.int x :: .int i :: .ref a :: st) := by
  unfold zsI at hv
  by_cases hk : (σ.1 a).1 = 1
  · rw [if_pos hk] at hv
    by_cases hi : i < 0 ∨ (σ.1 a).2 ≤ i.toNatClampNeg
    · rw [if_pos hi] at hv; cases hv
    · rw [if_neg hi] at hv
      cases hv
      intro H locs ls h hS hl
      have hat := h.2.2 a _ (zent_1 hk)
      refine W.iast C.1 C.2.1 hat.2 ((C.2.2.2.2.2.1.2 0 _ rfl).1 (σ.1 a).2 (fun j => .int (σ.2.1 a j))) (fun q => by cases q) (by show ¬ (i < 0 ∨ (arrV _ _ _).slots.size ≤ _); rw [arrV_size]; exact hi) rfl rfl hd fun H1 e1 z oq => ?_
      refine kk H1 _ ls (zH_upd h hat.1 (zent_1 (by exact hk)) (fun b hb => zuI_off hb) z ?_ oq) (zS_upd hS z oq hat.1) hl
      show H1[a]? = some (vp_cell _ _)
      rw [e1]
      rw [vp_cell_i, vp_cell_i, arrV_store]
      congr 2
      funext q
      by_cases hq : q = i.toNatClampNeg
      · subst hq
        simp [updV, zuI, zu]
      · simp [updV, zuI, zu, hq]
  · rw [if_neg hk] at hv; cases hv
theorem z_sB (C : zC p s m args meth c cc own nL D Ca B En) {a : Nat} {i : Int32} {x : Int32} {τ : zS} (hv : zsB σ a i x = some τ) (hd : decode cc pc = .ok (.bastore, 1)) (kk : zW p l e R s m args below meth c cells slots Q D Ca B nL τ N (pc + 1) (lv) (st)) : zW p l e R s m args below meth c cells slots Q D Ca B nL σ N (pc) (lv) (.int x :: .int i :: .ref a :: st) := by
  unfold zsB at hv
  by_cases hk : (σ.1 a).1 = 2
  · rw [if_pos hk] at hv
    by_cases hi : i < 0 ∨ (σ.1 a).2 ≤ i.toNatClampNeg
    · rw [if_pos hi] at hv; cases hv
    · rw [if_neg hi] at hv
      cases hv
      intro H locs ls h hS hl
      have hat := h.2.2 a _ (zent_2 hk)
      refine W.bast C.1 C.2.1 hat.2 ((C.2.2.2.2.2.1.2 1 _ rfl).1 (σ.1 a).2 (fun j => .int (σ.2.1 a j))) (fun q => by cases q) (by show ¬ (i < 0 ∨ (arrV _ _ _).slots.size ≤ _); rw [arrV_size]; exact hi) rfl rfl hd fun H1 e1 z oq => ?_
      refine kk H1 _ ls (zH_upd h hat.1 (zent_2 (by exact hk)) (fun b hb => zuI_off hb) z ?_ oq) (zS_upd hS z oq hat.1) hl
      show H1[a]? = some (vp_cell _ _)
      rw [e1]
      rw [vp_cell_i, vp_cell_i, arrV_store]
      congr 2
      funext q
      by_cases hq : q = i.toNatClampNeg
      · subst hq
        simp [updV, zuI, zu, vp_nar_byte, narrow]
      · simp [updV, zuI, zu, hq]
  · rw [if_neg hk] at hv; cases hv
end ZR
