/-! Rows of the law's own frame: the script, which lies below all that the class has. -/
abbrev zLS (s : State) (B b L : Nat) (xs : Nat → Int32) : Prop := va_X b L xs s s.heap ∧ b < s.heap.size ∧ ¬ B ≤ b ∧ L ≤ 3072
abbrev lawLv (b X i : Nat) : List (Nat × Value) := [(0, .ref b), (1, .ref X), (2, .ref (X + 307)), (3, .ref (X + 322)), (4, .int (zi (i : Int)))]
theorem z_ix (i k : Nat) : zi (i : Int) + zi (k : Int) = zi ((i + k : Nat) : Int) := by
  rw [zi_add]
  rfl
theorem lgc (x : Int64) : lg_cmp x x = zi 0 := by
  unfold lg_cmp
  rw [if_neg (by simp), if_pos rfl]
  rfl
section ZL9
variable {p : Program} {l : Launch} {e : Env} {R : Room} {s : State} {m : MethodId} {args : Array Value} {below : List Frame} {meth : Method} {c : Code} {cells slots : Nat} {Q : State → Prop} {D : va_G} {Ca : Nat → ClassId} {B nL : Nat} {En : State → Prop} {cc : ByteArray} {own : String} {σ : zS} {N pc : Nat} {lv : List (Nat × Value)} {st : List Value}
theorem z_widen {k n : Nat} (h1 : cells ≤ k) (h2 : slots ≤ n) (kk : zW p l e R s m args below meth c k n Q D Ca B nL σ N pc lv st) : zW p l e R s m args below meth c cells slots Q D Ca B nL σ N pc lv st := fun H locs ls h hS hl => W.widen h1 h2 (kk H locs ls h hS hl)
theorem z_sld (C : zC p s m args meth c cc own nL D Ca B En) {b L : Nat} {xs : Nat → Int32} (hS9 : zLS s B b L xs) {x : Int32} (j : Nat) (hx : x = zi (j : Int)) (hj : j < L) (hd : decode cc pc = .ok (.iaload, 1)) (kk : zW p l e R s m args below meth c cells slots Q D Ca B nL σ N (pc + 1) lv (.int (xs j) :: st)) : zW p l e R s m args below meth c cells slots Q D Ca B nL σ N pc lv (.int x :: .ref b :: st) := fun H locs ls h hS hl => by
  subst hx
  have h3 := hS9.2.2.2
  have en : (zi (j : Int)).toNatClampNeg = j := by rw [zi_nat (by omega) (by omega), Int.toNat_natCast]
  have hin : ¬ (zi (j : Int) < 0 ∨ L ≤ (zi (j : Int)).toNatClampNeg) := by
    intro q
    rcases q with q | q
    · have q2 : zi (j : Int) < zi 0 := q
      rw [zi_lt (by omega) (by omega) (by omega) (by omega)] at q2
      omega
    · omega
  have h5 := kk H locs ls h hS hl
  rw [← en] at h5
  have h6 : W p l e R s m args below meth c H locs cells slots Q (F0 m (pc + 1) ls (.int (xs (zi (j : Int)).toNatClampNeg) :: st)) := by
    rw [en]
    exact kk H locs ls h hS hl
  exact va_sld C.1 C.2.1 hS9.1 hS9.2.1 hS9.2.2.1 hS hin hd h6
theorem z_slen (C : zC p s m args meth c cc own nL D Ca B En) {b L : Nat} {xs : Nat → Int32} (hS9 : zLS s B b L xs) (hd : decode cc pc = .ok (.arraylength, 1)) (kk : zW p l e R s m args below meth c cells slots Q D Ca B nL σ N (pc + 1) lv (.int (zi (L : Int)) :: st)) : zW p l e R s m args below meth c cells slots Q D Ca B nL σ N pc lv (.ref b :: st) := fun H locs ls h hS hl =>
  va_slen C.1 C.2.1 hS9.1 hS9.2.1 hS9.2.2.1 hS hd (kk H locs ls h hS hl)
end ZL9
