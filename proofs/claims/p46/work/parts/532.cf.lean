/-! A flow is copied from another. -/
section FI
variable {τ : zS} {g b u : Nat} {V : Nat → Nat → Int32}
theorem fi_i {j : Nat} (h : fis τ g V b u) : zgI 1 j τ g = some (V 0 j) := by
  have := fg_i (V := V) (b := b) (u := u) (j := j) h.1
  rwa [fput_self h] at this
theorem fi_k {y j : Nat} (h : fis τ g V b u) (hy : fx y) : zgI 0 j τ (g + y) = some (V y j) := by
  have := cg_i (V := V) (b := b) (u := u) (j := j) h.1 hy
  rwa [fput_self h] at this
theorem fi_9 (h : fis τ g V b u) : zgR 1 9 τ g = some (g + 1) := by
  have := fr_9 (V := V) (b := b) (u := u) h.1
  rwa [fput_self h] at this
theorem fi_10 (h : fis τ g V b u) : zgR 1 10 τ g = some (g + 2) := by
  have := fr_10 (V := V) (b := b) (u := u) h.1
  rwa [fput_self h] at this
theorem fi_11 (h : fis τ g V b u) : zgR 1 11 τ g = some (g + 3) := by
  have := fr_11 (V := V) (b := b) (u := u) h.1
  rwa [fput_self h] at this
theorem fi_12 (h : fis τ g V b u) : zgR 1 12 τ g = some (g + 4) := by
  have := fr_12 (V := V) (b := b) (u := u) h.1
  rwa [fput_self h] at this
theorem fi_13 (h : fis τ g V b u) : zgR 1 13 τ g = some (g + 5) := by
  have := fr_13 (V := V) (b := b) (u := u) h.1
  rwa [fput_self h] at this
theorem fi_14 (h : fis τ g V b u) : zgR 1 14 τ g = some (g + 6) := by
  have := fr_14 (V := V) (b := b) (u := u) h.1
  rwa [fput_self h] at this
theorem fi_15 (h : fis τ g V b u) : zgR 1 15 τ g = some (g + b) := by
  have := fr_15 (V := V) (b := b) (u := u) h.1
  rwa [fput_self h] at this
theorem fi_16 (h : fis τ g V b u) : zgR 1 16 τ g = some (g + (31 - b)) := by
  have := fr_16 (V := V) (b := b) (u := u) h.1
  rwa [fput_self h] at this
theorem fi_17 (h : fis τ g V b u) : zgR 1 17 τ g = some u := by
  have := fr_17 (V := V) (b := b) (u := u) h.1
  rwa [fput_self h] at this
theorem fi_18 (h : fis τ g V b u) : zgR 1 18 τ g = some (g + 29) := by
  have := fr_18 (V := V) (b := b) (u := u) h.1
  rwa [fput_self h] at this
theorem fi_19 (h : fis τ g V b u) : zgR 1 19 τ g = some (g + 30) := by
  have := fr_19 (V := V) (b := b) (u := u) h.1
  rwa [fput_self h] at this
theorem fi_k7 {y : Nat} (h : fis τ g V b u) (hy : fx y) : zgR 0 7 τ (g + y) = some (g + (y + 1)) := by
  have := cr_7 (V := V) (b := b) (u := u) h.1 hy
  rwa [fput_self h] at this
theorem fi_k8 {y : Nat} (h : fis τ g V b u) (hy : fx y) : zgR 0 8 τ (g + y) = some (g + (y + 2)) := by
  have := cr_8 (V := V) (b := b) (u := u) h.1 hy
  rwa [fput_self h] at this
theorem fi_k9 {y : Nat} (h : fis τ g V b u) (hy : fx y) : zgR 0 9 τ (g + y) = some (g + (y + 3)) := by
  have := cr_9 (V := V) (b := b) (u := u) h.1 hy
  rwa [fput_self h] at this
theorem fi_k10 {y : Nat} (h : fis τ g V b u) (hy : fx y) : zgR 0 10 τ (g + y) = some (g + (y + 4)) := by
  have := cr_10 (V := V) (b := b) (u := u) h.1 hy
  rwa [fput_self h] at this
end FI
section KCp
variable {σ : zS} {f b u g b2 u2 : Nat} {V V2 W : Nat → Nat → Int32} {M : qM} {P : qP}
theorem fp_17 {w : Nat} (h : fsh σ f) : zpR 1 17 (fput σ f V b u) f (some w) = some (fput σ f V b w) := by
  unfold zpR
  rw [if_pos (show ((fput σ f V b u).1 f).1 = 1 + 5 from h.1)]
  refine congrArg some ?_
  unfold zuR fput
  refine Prod.ext rfl (Prod.ext rfl (Prod.ext ?_ rfl))
  funext a j
  dsimp only
  unfold zu
  dsimp only
  by_cases e : a = f
  · rw [if_pos e, if_pos e]
    by_cases e2 : j = 17
    · rw [if_pos ⟨e, e2⟩, if_neg (by omega), if_neg (by omega), if_pos e2]
    · rw [if_neg (fun q => e2 q.2), if_neg e2, if_neg e2]
  · rw [if_neg (fun q => e q.1), if_neg e, if_neg e]
theorem c_kcopy {x y : Nat} (h : fsh σ f) (h2 : fis σ g V2 b2 u2) (hd : fapart f g) (hx : fx x) (hy : fx y) (hz : V2 y 0 ≠ zi 0 → (V2 y 3 = zi 0 ∨ V2 y 3 = zi 1) ∧ (V2 y 4 = zi 0 ∨ V2 y 4 = zi 1)) :
    ∃ W, fX0_copyFrom (fput σ f V b u) (f + x) (g + y) = some (fput σ f W b u) ∧ W x 0 = V2 y 0 ∧ (V2 y 0 ≠ zi 0 → (∀ j, j < 7 → W x j = V2 y j) ∧ (∀ o j, 1 ≤ o → o ≤ 3 → j < flen (x + o) → W (x + o) j = V2 (y + o) j) ∧ ∀ i j, 1 ≤ i → i ≤ 4 → j < flen (x + 4 + i) → W (x + 4 + i) j = V2 (y + 4 + i) j) ∧ ∀ p, (p < x ∨ x + 8 < p) → W p = V p := by
  have fb := flen_k hx
  have fk := flen_k hy
  have hg : ∀ X b u, fis (fput σ f X b u) g V2 b2 u2 := fun X b u => fis_put2 h2 hd
  unfold fX0_copyFrom
  rw [fi_k (hg _ _ _) hy, Option.bind_some, cp_i h hx, Option.bind_some, cg_i h hx, Option.bind_some, vs_at]
  by_cases e : V2 y 0 = zi 0
  · rw [if_pos e]
    exact ⟨_, rfl, vs_at _ _ _ _, fun q => absurd e q, fun p hp => vs_no (by omega)⟩
  · obtain ⟨z1, z2⟩ := hz e
    rw [if_neg e, fi_k (hg _ _ _) hy, Option.bind_some, cp_i h hx, Option.bind_some, fi_k (hg _ _ _) hy, Option.bind_some, cp_i h hx, Option.bind_some, fi_k (hg _ _ _) hy, Option.bind_some, cp_z h hx z1, Option.bind_some, fi_k (hg _ _ _) hy, Option.bind_some, cp_z h hx z2, Option.bind_some, fi_k (hg _ _ _) hy, Option.bind_some, cp_i h hx, Option.bind_some, fi_k (hg _ _ _) hy, Option.bind_some, cp_i h hx, Option.bind_some]
    obtain ⟨V1, hV1⟩ : ∃ V1, V1 = vs (vs (vs (vs (vs (vs (vs V x 0 (V2 y 0)) x 1 (V2 y 1)) x 2 (V2 y 2)) x 3 (V2 y 3)) x 4 (V2 y 4)) x 5 (V2 y 5)) x 6 (V2 y 6) := ⟨_, rfl⟩
    rw [← hV1]
    have v1 : ∀ j, j < 7 → V1 x j = V2 y j := fun j hj => by
      have : j = 0 ∨ j = 1 ∨ j = 2 ∨ j = 3 ∨ j = 4 ∨ j = 5 ∨ j = 6 := by omega
      rw [hV1]
      rcases this with rfl | rfl | rfl | rfl | rfl | rfl | rfl <;> simp [vs]
    have v0 : ∀ p, p ≠ x → V1 p = V p := fun p hp => by
      rw [hV1, vs_no hp, vs_no hp, vs_no hp, vs_no hp, vs_no hp, vs_no hp, vs_no hp]
    rw [fi_k7 (hg _ _ _) hy, Option.bind_some, cr_7 h hx, Option.bind_some, c_copy2 (x + 1) (y + 1) h h2 hd (by omega) (by omega) (by omega) (by omega), Option.bind_some, fi_k8 (hg _ _ _) hy, Option.bind_some, cr_8 h hx, Option.bind_some, c_copy2 (x + 2) (y + 2) h h2 hd (by omega) (by omega) (by omega) (by omega), Option.bind_some, fi_k9 (hg _ _ _) hy, Option.bind_some, cr_9 h hx, Option.bind_some, c_copy2 (x + 3) (y + 3) h h2 hd (by omega) (by omega) (by omega) (by omega), Option.bind_some, cr_10 h hx, Option.bind_some, fi_k10 (hg _ _ _) hy, Option.bind_some, fc_3 h (fx_o hx)]
    rw [vw_ne (V := V1) (o := x + 1) (p := x + 2) (by omega)]
    obtain ⟨V4, hV4⟩ : ∃ V4, V4 = vw (vw (vw V1 (x + 1) (fun j => if j < flen (x + 1) then V2 (y + 1) j else V1 (x + 1) j)) (x + 2) (fun j => if j < flen (x + 2) then V2 (y + 2) j else V1 (x + 2) j)) (x + 3) (fun j => if j < flen (x + 3) then V2 (y + 3) j else vw (vw V1 (x + 1) (fun j => if j < flen (x + 1) then V2 (y + 1) j else V1 (x + 1) j)) (x + 2) (fun j => if j < flen (x + 2) then V2 (y + 2) j else V1 (x + 2) j) (x + 3) j) := ⟨_, rfl⟩
    rw [← hV4]
    obtain ⟨W, eW, hW, fW⟩ := c_lcopy (σ := σ) (f := f) (b := b) (u := u) (V := V4) h h2 hd (fx_o hx) (fx_o hy)
    rw [eW, Option.bind_some]
    refine ⟨W, rfl, ?_, fun _ => ⟨fun j hj => ?_, fun o j o1 o3 hj => ?_, fun i j i1 i4 hj => hW i j i1 i4 hj⟩, fun p hp => ?_⟩
    · rw [fW x (by omega), hV4, vw_ne (by omega), vw_ne (by omega), vw_ne (by omega)]
      exact v1 0 (by omega)
    · rw [fW x (by omega), hV4, vw_ne (by omega), vw_ne (by omega), vw_ne (by omega)]
      exact v1 j hj
    · have : o = 1 ∨ o = 2 ∨ o = 3 := by omega
      rw [fW (x + o) (by omega), hV4]
      rcases this with rfl | rfl | rfl
      · rw [vw_ne (by omega), vw_ne (by omega), vw_at, if_pos hj]
      · rw [vw_ne (by omega), vw_at, if_pos hj]
      · rw [vw_at, if_pos hj]
    · rw [fW p (by omega), hV4, vw_ne (by omega), vw_ne (by omega), vw_ne (by omega)]
      exact v0 p (by omega)
theorem RC_copy (hC : RC V2 b2 M) (hb : fx b) (h0 : ∀ j, j < 9 → W 0 j = V2 0 j) (hr : ∀ o j, (1 ≤ o ∧ o ≤ 5 ∨ o = 29 ∨ o = 30) → j < flen o → W o j = V2 o j) (hl : ∀ i j, 1 ≤ i → i ≤ 4 → j < flen (6 + i) → W (6 + i) j = V2 (6 + i) j)
    (p0 : W b 0 = V2 b2 0) (hp : M.1 67 = 1 → (∀ j, j < 7 → W b j = V2 b2 j) ∧ (∀ o j, 1 ≤ o → o ≤ 3 → j < flen (b + o) → W (b + o) j = V2 (b2 + o) j) ∧ ∀ i j, 1 ≤ i → i ≤ 4 → j < flen (b + 4 + i) → W (b + 4 + i) j = V2 (b2 + 4 + i) j)
    (c0 : W (31 - b) 0 = V2 (31 - b2) 0) (hc : M.1 118 = 1 → (∀ j, j < 7 → W (31 - b) j = V2 (31 - b2) j) ∧ (∀ o j, 1 ≤ o → o ≤ 3 → j < flen (31 - b + o) → W (31 - b + o) j = V2 (31 - b2 + o) j) ∧ ∀ i j, 1 ≤ i → i ≤ 4 → j < flen (31 - b + 4 + i) → W (31 - b + 4 + i) j = V2 (31 - b2 + 4 + i) j) : RC W b M := by
  have fb := flen_k hb
  have fk := flen_k (fx_other hb).1
  obtain ⟨-, ⟨a0, a1, a2, a3, a4, a5, a6, a7, a8⟩, ⟨r0, r1⟩, l0, l1⟩ := hC
  refine ⟨hb, ⟨row_of a0 h0 (fun _ _ => rfl), row_of a1 (fun j hj => hr 1 j (by omega) hj) (fun _ _ => rfl), row_of a2 (fun j hj => hr 2 j (by omega) hj) (fun _ _ => rfl), row_of a3 (fun j hj => hr 3 j (by omega) hj) (fun _ _ => rfl), row_of a4 (fun j hj => hr 4 j (by omega) hj) (fun _ _ => rfl), row_of a5 (fun j hj => hr 5 j (by omega) hj) (fun _ _ => rfl), row_of a6 (fun j hj => hr 29 j (by omega) hj) (fun _ _ => rfl), row_of a7 (fun j hj => hr 30 j (by omega) hj) (fun _ _ => rfl), LL_of (o := 6) (o2 := 6) (Or.inl rfl) a8 hl⟩, ⟨p0.trans r0, fun e => ?_⟩, c0.trans l0, fun e => ?_⟩
  · obtain ⟨s1, s3, s4, s5, s6, t1, t2, t3, t4⟩ := r1 e
    obtain ⟨q1, q2, q3⟩ := hp e
    refine ⟨(q1 1 (by omega)).trans s1, (q1 3 (by omega)).trans s3, (q1 4 (by omega)).trans s4, (q1 5 (by omega)).trans s5, (q1 6 (by omega)).trans s6, row_of t1 (fun j hj => q2 1 j (by omega) (by omega) (by omega)) (fun _ _ => rfl), row_of t2 (fun j hj => q2 2 j (by omega) (by omega) (by omega)) (fun _ _ => rfl), row_of t3 (fun j hj => q2 3 j (by omega) (by omega) (by omega)) (fun _ _ => rfl), LL_of (fx_o hb) t4 q3⟩
  · obtain ⟨s1, s2, s3, s4, s6, t2, t3, t4⟩ := l1 e
    obtain ⟨q1, q2, q3⟩ := hc e
    refine ⟨(q1 1 (by omega)).trans s1, (q1 2 (by omega)).trans s2, (q1 3 (by omega)).trans s3, (q1 4 (by omega)).trans s4, (q1 6 (by omega)).trans s6, row_of t2 (fun j hj => q2 2 j (by omega) (by omega) (by omega)) (fun _ _ => rfl), row_of t3 (fun j hj => q2 3 j (by omega) (by omega) (by omega)) (fun _ _ => rfl), LL_of (fx_o (fx_other hb).1) t4 q3⟩
/-- THE CLASS'S COPY: what another flow holds -/
theorem k_copy (h : fsh σ f) (h2 : fis σ g V2 b2 u2) (hd : fapart f g) (hb : fx b) (hC : RC V2 b2 M) (hI : qI P M) (hT : KT M) : ∃ W, fX1_copyFrom (fput σ f V b u) f g = some (fput σ f W b u2) ∧ RC W b M := by
  have hb2 := hC.1
  have fb := flen_k hb
  have fk := flen_k (fx_other hb).1
  have hbb : b = 11 ∨ b = 20 := hb
  have hg : ∀ X b u, fis (fput σ f X b u) g V2 b2 u2 := fun X b u => fis_put2 h2 hd
  have hN := hI.1.2.1
  have z3 : V2 0 3 = zi 0 ∨ V2 0 3 = zi 1 := by
    rw [hC.2.1.1 3 (by omega), show gF M 3 = M.1 4 from rfl]
    rcases hN.2.2.2.1 with q | q <;> rw [q]
    · exact Or.inl rfl
    · exact Or.inr rfl
  have eP : M.1 67 = 1 → V2 b2 0 ≠ zi 0 := fun e => by
    have h5 := (hI.1.2.2.2.2.2.1 e).1.2.2.2.2.2.1
    have h5b := hT.2.2.1
    rw [hC.2.2.1.1, if_pos e]
    intro q
    rw [zi_eq (by omega) (by omega) (by omega) (by omega)] at q
    omega
  have eL : M.1 118 = 1 → V2 (31 - b2) 0 ≠ zi 0 := fun e => by
    have h5 := hI.1.2.2.2.2.2.2.2.2 e
    have h5b := hT.2.2.2
    rw [hC.2.2.2.1, if_pos e]
    intro q
    rw [zi_eq (by omega) (by omega) (by omega) (by omega)] at q
    omega
  have zP : V2 b2 0 ≠ zi 0 → (V2 b2 3 = zi 0 ∨ V2 b2 3 = zi 1) ∧ (V2 b2 4 = zi 0 ∨ V2 b2 4 = zi 1) := fun q => by
    by_cases e : M.1 67 = 1
    · obtain ⟨s1, s3, s4, -⟩ := hC.2.2.1.2 e
      rw [s3, s4]
      refine ⟨?_, Or.inl rfl⟩
      rcases (hI.1.2.2.2.2.2.1 e).1.1 with q | q <;> rw [q]
      · exact Or.inl rfl
      · exact Or.inr rfl
    · rw [hC.2.2.1.1, if_neg e] at q
      exact absurd rfl q
  have zL : V2 (31 - b2) 0 ≠ zi 0 → (V2 (31 - b2) 3 = zi 0 ∨ V2 (31 - b2) 3 = zi 1) ∧ (V2 (31 - b2) 4 = zi 0 ∨ V2 (31 - b2) 4 = zi 1) := fun q => by
    by_cases e : M.1 118 = 1
    · obtain ⟨s1, s2, s3, s4, -⟩ := hC.2.2.2.2 e
      rw [s3, s4]
      refine ⟨?_, ?_⟩
      · rcases hN.2.2.2.2.2.2.2.2.2.2.1 with q | q <;> rw [q]
        · exact Or.inl rfl
        · exact Or.inr rfl
      · rcases hN.2.2.2.2.2.2.2.2.2.1 with q | q <;> rw [q]
        · exact Or.inl rfl
        · exact Or.inr rfl
    · rw [hC.2.2.2.1, if_neg e] at q
      exact absurd rfl q
  unfold fX1_copyFrom
  rw [fi_17 (hg _ _ _), Option.bind_some, fp_17 h, Option.bind_some]
  rw [fi_i (hg _ _ _), Option.bind_some, fp_i h, Option.bind_some, fi_i (hg _ _ _), Option.bind_some, fp_i h, Option.bind_some, fi_i (hg _ _ _), Option.bind_some, fp_i h, Option.bind_some, fi_i (hg _ _ _), Option.bind_some, fp_z h z3, Option.bind_some, fi_i (hg _ _ _), Option.bind_some, fp_i h, Option.bind_some, fi_i (hg _ _ _), Option.bind_some, fp_i h, Option.bind_some, fi_i (hg _ _ _), Option.bind_some, fp_i h, Option.bind_some, fi_i (hg _ _ _), Option.bind_some, fp_i h, Option.bind_some, fi_i (hg _ _ _), Option.bind_some, fp_i h, Option.bind_some]
  obtain ⟨V1, hV1⟩ : ∃ V1, V1 = vs (vs (vs (vs (vs (vs (vs (vs (vs V 0 0 (V2 0 0)) 0 1 (V2 0 1)) 0 2 (V2 0 2)) 0 3 (V2 0 3)) 0 4 (V2 0 4)) 0 5 (V2 0 5)) 0 6 (V2 0 6)) 0 7 (V2 0 7)) 0 8 (V2 0 8) := ⟨_, rfl⟩
  rw [← hV1]
  have v1 : ∀ j, j < 9 → V1 0 j = V2 0 j := fun j hj => by
    have : j = 0 ∨ j = 1 ∨ j = 2 ∨ j = 3 ∨ j = 4 ∨ j = 5 ∨ j = 6 ∨ j = 7 ∨ j = 8 := by omega
    rw [hV1]
    rcases this with rfl | rfl | rfl | rfl | rfl | rfl | rfl | rfl | rfl <;> simp [vs]
  rw [fi_9 (hg _ _ _), Option.bind_some, fr_9 h, Option.bind_some, c_copy2 1 1 h h2 hd (by omega) (by omega) (by decide) rfl, Option.bind_some]
  obtain ⟨Va, hVa⟩ : ∃ Va, Va = vw V1 1 (fun j => if j < flen 1 then V2 1 j else V1 1 j) := ⟨_, rfl⟩
  rw [← hVa, fi_10 (hg _ _ _), Option.bind_some, fr_10 h, Option.bind_some, c_copy2 2 2 h h2 hd (by omega) (by omega) (by decide) rfl, Option.bind_some]
  obtain ⟨Vb, hVb⟩ : ∃ Vb, Vb = vw Va 2 (fun j => if j < flen 2 then V2 2 j else Va 2 j) := ⟨_, rfl⟩
  rw [← hVb, fi_11 (hg _ _ _), Option.bind_some, fr_11 h, Option.bind_some, c_copy2 3 3 h h2 hd (by omega) (by omega) (by decide) rfl, Option.bind_some]
  obtain ⟨Vc, hVc⟩ : ∃ Vc, Vc = vw Vb 3 (fun j => if j < flen 3 then V2 3 j else Vb 3 j) := ⟨_, rfl⟩
  rw [← hVc, fi_12 (hg _ _ _), Option.bind_some, fr_12 h, Option.bind_some, c_copy2 4 4 h h2 hd (by omega) (by omega) (by decide) rfl, Option.bind_some]
  obtain ⟨Vd, hVd⟩ : ∃ Vd, Vd = vw Vc 4 (fun j => if j < flen 4 then V2 4 j else Vc 4 j) := ⟨_, rfl⟩
  rw [← hVd, fi_13 (hg _ _ _), Option.bind_some, fr_13 h, Option.bind_some, c_copy2 5 5 h h2 hd (by omega) (by omega) (by decide) rfl, Option.bind_some]
  obtain ⟨Ve, hVe⟩ : ∃ Ve, Ve = vw Vd 5 (fun j => if j < flen 5 then V2 5 j else Vd 5 j) := ⟨_, rfl⟩
  rw [← hVe, fi_18 (hg _ _ _), Option.bind_some, fr_18 h, Option.bind_some, c_copy2 29 29 h h2 hd (by omega) (by omega) (by decide) rfl, Option.bind_some]
  obtain ⟨Vf, hVf⟩ : ∃ Vf, Vf = vw Ve 29 (fun j => if j < flen 29 then V2 29 j else Ve 29 j) := ⟨_, rfl⟩
  rw [← hVf, fi_19 (hg _ _ _), Option.bind_some, fr_19 h, Option.bind_some, c_copy2 30 30 h h2 hd (by omega) (by omega) (by decide) rfl, Option.bind_some]
  obtain ⟨Vg, hVg⟩ : ∃ Vg, Vg = vw Vf 30 (fun j => if j < flen 30 then V2 30 j else Vf 30 j) := ⟨_, rfl⟩
  rw [← hVg, fr_14 h, Option.bind_some, fi_14 (hg _ _ _), Option.bind_some, fc_3 h (Or.inl rfl)]
  obtain ⟨Wl, eWl, hWl, fWl⟩ := c_lcopy (σ := σ) (f := f) (b := b) (u := u2) (V := Vg) (o := 6) (o2 := 6) h h2 hd (Or.inl rfl) (Or.inl rfl)
  rw [eWl, Option.bind_some, fr_15 h, Option.bind_some, fi_15 (hg _ _ _), Option.bind_some, fc_0 h hb]
  obtain ⟨Wp, eWp, w0p, hWp, fWp⟩ := c_kcopy (σ := σ) (f := f) (b := b) (u := u2) (V := Wl) (x := b) (y := b2) h h2 hd hb hb2 zP
  rw [eWp, Option.bind_some, fr_16 h, Option.bind_some, fi_16 (hg _ _ _), Option.bind_some, fc_0 h (fx_other hb).1]
  obtain ⟨Wc, eWc, w0c, hWc, fWc⟩ := c_kcopy (σ := σ) (f := f) (b := b) (u := u2) (V := Wp) (x := 31 - b) (y := 31 - b2) h h2 hd (fx_other hb).1 (fx_other hb2).1 zL
  rw [eWc, Option.bind_some]
  have low : ∀ p, (p ≤ 6 ∨ p = 29 ∨ p = 30) → Wc p = Vg p := fun p hp => by rw [fWc p (by omega), fWp p (by omega), fWl p (by omega)]
  refine ⟨Wc, rfl, RC_copy hC hb (fun j hj => ?_) (fun o j ho hj => ?_) (fun i j i1 i4 hj => ?_) ?_ (fun e => ?_) w0c (fun e => hWc (eL e))⟩
  · rw [low 0 (by omega), hVg, vw_ne (by omega), hVf, vw_ne (by omega), hVe, vw_ne (by omega), hVd, vw_ne (by omega), hVc, vw_ne (by omega), hVb, vw_ne (by omega), hVa, vw_ne (by omega)]
    exact v1 j hj
  · have : o = 1 ∨ o = 2 ∨ o = 3 ∨ o = 4 ∨ o = 5 ∨ o = 29 ∨ o = 30 := by omega
    rw [low o (by omega)]
    rcases this with rfl | rfl | rfl | rfl | rfl | rfl | rfl
    · rw [hVg, vw_ne (by omega), hVf, vw_ne (by omega), hVe, vw_ne (by omega), hVd, vw_ne (by omega), hVc, vw_ne (by omega), hVb, vw_ne (by omega), hVa, vw_at, if_pos hj]
    · rw [hVg, vw_ne (by omega), hVf, vw_ne (by omega), hVe, vw_ne (by omega), hVd, vw_ne (by omega), hVc, vw_ne (by omega), hVb, vw_at, if_pos hj]
    · rw [hVg, vw_ne (by omega), hVf, vw_ne (by omega), hVe, vw_ne (by omega), hVd, vw_ne (by omega), hVc, vw_at, if_pos hj]
    · rw [hVg, vw_ne (by omega), hVf, vw_ne (by omega), hVe, vw_ne (by omega), hVd, vw_at, if_pos hj]
    · rw [hVg, vw_ne (by omega), hVf, vw_ne (by omega), hVe, vw_at, if_pos hj]
    · rw [hVg, vw_ne (by omega), hVf, vw_at, if_pos hj]
    · rw [hVg, vw_at, if_pos hj]
  · rw [fWc _ (by omega), fWp _ (by omega)]
    exact hWl i j i1 i4 hj
  · rw [fWc b (by omega)]; exact w0p
  · obtain ⟨q1, q2, q3⟩ := hWp (eP e)
    refine ⟨fun j hj => by rw [fWc b (by omega)]; exact q1 j hj, fun o j o1 o3 hj => by rw [fWc (b + o) (by omega)]; exact q2 o j o1 o3 hj, fun i j i1 i4 hj => by rw [fWc (b + 4 + i) (by omega)]; exact q3 i j i1 i4 hj⟩
end KCp
