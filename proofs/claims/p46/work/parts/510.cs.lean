/-! The class's flow sends a record. -/
section KD
variable {σ : zS} {f b u : Nat} {V : Nat → Nat → Int32} {M : qM} {P : qP}
theorem k_send {s : Nat} (h : KS σ f u P) (hI : qI P M) (hC : RC V b M) (hs : s < P.1) : ∃ W, fX1_sendRecord (fput σ f V b u) f (zi s) = some (fput σ f W b u) ∧ RC W b (qsend P s M) := by
  have hS := h.1
  have hx := hC.1
  have fb := flen_k hx
  have hP := h.2.2.2
  have hs4 : s < 4 := by have := hP.2.1; omega
  have hN := hI.1.2.1
  have hpos := hN.2.2.2.2.2.1 s hs4
  have h200 := hP.2.2.2.2.1 s
  have hI2 := qI_send hI hs
  unfold qsend at hI2 ⊢
  unfold fX1_sendRecord
  rw [fr_10 hS, Option.bind_some, fa_rd 2 s hS (by omega) rfl (by show s < 4; exact hs4), Option.bind_some, fr_17 hS, Option.bind_some, su_r (KS_su h) (by omega) (by omega), Option.bind_some, su_rec (KS_su h) hs4, Option.bind_some, hC.2.1.2.2.1 s hs4]
  dsimp only
  by_cases e : (P.2.2.1 s : Int) ≤ M.1 (13 + s)
  · rw [if_neg (by rw [zi_lt (by omega) (by omega) (by omega) (by omega)]; omega), if_pos e]
    exact ⟨V, rfl, hC⟩
  · rw [if_pos (by rw [zi_lt (by omega) (by omega) (by omega) (by omega)]; omega), if_neg e]
    rw [if_neg e] at hI2
    have hm := hN.1
    have hmq : M.1 1 = (qmany M : Int) := by unfold qmany; omega
    obtain ⟨p, hp⟩ : ∃ p : Nat, M.1 (13 + s) = (p : Int) := ⟨(M.1 (13 + s)).toNat, by omega⟩
    have hn8 : 200 * s + p < 800 := by omega
    have hnr : (200 * s + p) % 200 < P.2.2.1 ((200 * s + p) / 200) := by rw [show (200 * s + p) % 200 = p from by omega, show (200 * s + p) / 200 = s from by omega]; omega
    have hk := qkey_lt (P := P) hn8
    have ho := qown_lt (k := qkey P (200 * s + p)) (m := qmany M) (by omega)
    have ct : (200 * (s : Int) + (p : Int)) = ((200 * s + p : Nat) : Int) := by omega
    rw [hp] at hI2 ⊢
    rw [show ((p : Int)).toNat = p from Int.toNat_natCast p] at hI2 ⊢
    dsimp only at hI2 ⊢
    rw [Option.bind_some, fa_rd 2 s hS (by omega) rfl (by show s < 4; exact hs4), Option.bind_some, hC.2.1.2.2.1 s hs4]
    dsimp only
    rw [hp, show fX9_numberOf (fput σ f V b u) (zi s) (zi (p : Int)) = some (fput σ f V b u, zi ((200 * s + p : Nat) : Int)) from by
      unfold fX9_numberOf
      rw [zi_mul, zi_add, ct], Option.bind_some]
    dsimp only
    rw [fr_17 hS, Option.bind_some, su_c (KS_su h), su_key (KS_su h) hn8 hnr, Option.bind_some]
    dsimp only
    rw [fg_i hS, Option.bind_some, hC.2.1.1 0 (by omega), show gF M 0 = (qmany M : Int) from hmq, c_owner hk (by omega), Option.bind_some]
    dsimp only
    rw [c_channel, Option.bind_some]
    dsimp only
    rw [fr_14 hS, Option.bind_some, fc_3 hS (Or.inl rfl), c_sizeOf hS (Or.inl rfl) hC.2.1.2.2.2.2.2.2.2.2 (by omega), Option.bind_some, fg_i hS, Option.bind_some, hC.2.1.1 1 (by omega), show gF M 1 = M.1 2 from rfl]
    dsimp only
    have hlen := LD_len (o := 6) ⟨hC.2.1.2.2.2.2.2.2.2.2, LD_I hI⟩ (l := 4 * qown (qkey P (200 * s + p)) (qmany M) + s) (by omega)
    have hroom := hN.2.1
    by_cases e2 : M.1 2 ≤ ((M.2.1 (4 * qown (qkey P (200 * s + p)) (qmany M) + s)).length : Int)
    · rw [if_pos (by rw [zi_le (by omega) (by omega) (by omega) (by omega)]; exact e2), if_pos e2]
      exact ⟨V, rfl, hC⟩
    · rw [if_neg (by rw [zi_le (by omega) (by omega) (by omega) (by omega)]; exact e2), if_neg e2]
      rw [if_neg e2] at hI2
      obtain ⟨W, eW, hW, fW⟩ := d_add (σ := σ) (f := f) (b := b) (u := u) (V := V) (r := 200 * s + p) hS (Or.inl rfl) ⟨hC.2.1.2.2.2.2.2.2.2.2, LD_I hI⟩ (l := 4 * qown (qkey P (200 * s + p)) (qmany M) + s) (by omega) hn8 (fresh_of (LD_I hI2) (by omega))
      rw [fr_14 hS, Option.bind_some, fc_3 hS (Or.inl rfl), eW, Option.bind_some, fr_10 hS, Option.bind_some, fa_rd 2 s hS (by omega) rfl (by show s < 4; exact hs4), Option.bind_some, fW 2 (by omega), hC.2.1.2.2.1 s hs4]
      dsimp only
      rw [hp, zi_add, fa_wr 2 s hS (by omega) rfl (by show s < 4; exact hs4), Option.bind_some, fg_i hS, Option.bind_some, vs_ne (by omega), fW 0 (by omega), hC.2.1.1 8 (by omega), zi_add, fp_i hS, Option.bind_some]
      refine ⟨_, rfl, RC_own hC ?_ (fun q q1 q2 => ?_) (fun k hk => ?_) (fun c c1 c2 => ?_)⟩
      · obtain ⟨a0, a1, a2, a3, a4, a5, a6, a7, a8⟩ := hC.2.1
        have n1 : ∀ k, k ≠ 13 + s → k ≠ 8 → qu (qu M.1 (13 + s) ((p : Int) + 1)) 8 (M.1 8 + 1) k = M.1 k := fun k k1 k2 => by rw [qu_ne k2, qu_ne k1]
        have wp : ∀ q, q ≠ 0 → q ≠ 2 → (q ≤ 6 ∨ 10 < q) → vs (vs W 2 s (zi ((p : Int) + 1))) 0 8 (zi (gF M 8 + 1)) q = V q := fun q q1 q2 q3 => by rw [vs_no q1, vs_no q2, fW q q3]
        refine ⟨fun j hj => ?_, row_of a1 (fun j _ => by rw [wp 1 (by omega) (by omega) (by omega)]) (fun j hj => n1 _ (by omega) (by omega)), fun j hj => ?_, row_of a3 (fun j _ => by rw [wp 3 (by omega) (by omega) (by omega)]) (fun j hj => n1 _ (by omega) (by omega)), row_of a4 (fun j _ => by rw [wp 4 (by omega) (by omega) (by omega)]) (fun j hj => n1 _ (by omega) (by omega)),
          row_of a5 (fun j _ => by rw [wp 5 (by omega) (by omega) (by omega)]) (fun j hj => gmask_of fun x hx => n1 _ (by omega) (by omega)), row_of a6 (fun j _ => by rw [wp 29 (by omega) (by omega) (by omega)]) (fun j hj => n1 _ (by omega) (by omega)), row_of a7 (fun j _ => by rw [wp 30 (by omega) (by omega) (by omega)]) (fun j hj => rfl), LL_of2 hW.1 (fun q q1 q2 => by rw [vs_no (by omega), vs_no (by omega)]) (fun _ _ => rfl)⟩
        · by_cases e3 : j = 8
          · rw [e3, vs_at]
            exact congrArg zi (qu_at (qu M.1 (13 + s) ((p : Int) + 1)) 8 (M.1 8 + 1)).symm
          · rw [vs_ne (by omega), vs_no (by omega), fW 0 (by omega), a0 j hj]
            refine congrArg zi ?_
            have n2 : ∀ k, k < 8 → qu (qu M.1 (13 + s) ((p : Int) + 1)) 8 (M.1 8 + 1) k = M.1 k := fun k hk => n1 k (by omega) (by omega)
            unfold gF
            dsimp only
            rw [n2 0 (by omega), n2 1 (by omega), n2 2 (by omega), n2 3 (by omega), n2 4 (by omega), n2 j (by omega)]
        · rw [vs_no (by omega)]
          show _ = zi (qu (qu M.1 (13 + s) ((p : Int) + 1)) 8 (M.1 8 + 1) (13 + j))
          rw [qu_ne (by omega)]
          by_cases e3 : j = s
          · rw [e3, vs_at, qu_at]
          · rw [vs_ne (by omega), fW 2 (by omega), qu_ne (by omega)]; exact a2 j hj
      · rw [vs_no (by omega), vs_no (by omega), fW q (by omega)]
      · show qu (qu M.1 (13 + s) ((p : Int) + 1)) 8 (M.1 8 + 1) k = M.1 k
        rw [qu_ne (by omega), qu_ne (by omega)]
      · show qu M.2.1 (4 * qown (qkey P (200 * s + p)) (qmany M) + s) _ c = M.2.1 c
        rw [qu_ne (by omega)]
end KD
