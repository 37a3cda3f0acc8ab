theorem same_ch {f g : St → Op} {S : St} {q q2 : Nat → Nat} {π ν π2 ν2 : Nat → Nat → Nat} {us im us2 im2 : Nat → Nat → Nat → Nat} {d d2 : Nat → Nat → Nat} {fa fa2 : Int32} {r : Int32} {S1 : St} (hM : IM S q π ν us im d fa) (e1 : f S = some (r, S1)) (g1 : ∀ a, 35 ≤ a → S1 a = S a) (hC2 : IC S1 q2 π2 ν2 us2 im2 d2 fa2) (hV2 : IV q2 π2 ν2 us2 im2 d2) (hM2 : ∀ S0, IM S0 q π ν us im d fa → ∃ S2, g S0 = some (r, S2) ∧ IM S2 q2 π2 ν2 us2 im2 d2 fa2 ∧ ∀ a, a < 35 → S2 a = S0 a) : ∃ r S1 S2, f S = some (r, S1) ∧ g S1 = some (r, S2) ∧ Inv S2 := by
  have hM1 : IM S1 q π ν us im d fa := hM.fr (fun a o h => by rw [g1 a (by unfold scM at h; omega)])
  obtain ⟨S2, e2, h2, g2⟩ := hM2 S1 hM1
  refine ⟨r, S1, S2, e1, e2, q2, π2, ν2, us2, im2, d2, fa2, ?_, h2, hV2⟩
  refine hC2.fr hV2.1.2.2.1 (fun a o h => ?_)
  rw [g2 a (by unfold scC at h; omega)]
/-- nothing shown changes, nothing is written -/
theorem same_ro {f g : St → Op} (h : ∀ S q π ν us im d fa, IC S q π ν us im d fa → IV q π ν us im d → ∃ r, f S = some (r, S) ∧ ∀ S0, IM S0 q π ν us im d fa → ∃ S2, g S0 = some (r, S2) ∧ Fr (fun a _ => a = 51 ∨ a = 52 ∨ a = 53 ∨ a = 55 ∨ a = 56 ∨ a = 57 ∨ a = 58) S0 S2) : Same f g := by
  refine same_of (fun S q π ν us im d fa hC hM hV => ?_)
  obtain ⟨r, e, h2⟩ := h S q π ν us im d fa hC hV
  refine ⟨r, S, e, Fr.rf, fun _ _ => rfl, fun S0 h0 => ?_⟩
  obtain ⟨S2, e2, f2⟩ := h2 S0 h0
  refine ⟨S2, e2, fun a o h => f2 a o (by unfold scM at h; omega), fun a ha => ?_⟩
  funext o
  exact f2 a o (by omega)
theorem IC.k {S : St} {q : Nat → Nat} {π ν : Nat → Nat → Nat} {us im : Nat → Nat → Nat → Nat} {d : Nat → Nat → Nat} {fa : Int32} (h : IC S q π ν us im d fa) : pid (S 0 0 1) = q 7 := by rw [h.1.2.1]; exact pid_uid h.1.1
theorem same_fault : Same fX10_fault fX11_fault := same_ro (fun S q π ν us im d fa hC _ => ⟨fa, by unfold fX10_fault; rw [hC.2.2.2.1.2.2], fun S0 hM => ⟨S0, by unfold fX11_fault; rw [hM.2.2.1.2.2], Fr.rf⟩⟩)
theorem same_seed (a : Int32) : Same (fX10_seed a) (fX11_seed a) := by
  rintro S ⟨q, π, ν, us, im, d, fa, hC, hM, hV⟩
  by_cases h : (0 : Int32) ≤ a
  · obtain ⟨j, hj, rfl⟩ := nI_of (Int32.not_lt.mpr h)
    obtain ⟨h0, h1, h2, h3, h4, h5, h6, h7, h8, h9⟩ := hC
    refine same_ch (q2 := va_up q 1 j) (π2 := π) (ν2 := ν) (us2 := us) (im2 := im) (d2 := d) (fa2 := fa) (r := nI (q 1)) (S1 := wr S 19 0 0 (nI j)) hM ?_ (fun a ha => wr_kind (by omega)) ⟨h0, h1, h2, h3, wr_same _ _ _ _ _, h5, h6, h7, h8, h9⟩ ?_ (fun S0 hM0 => ?_)
    · simp only [fX10_seed, bi, bs]
      rw [if_pos h, h4]
    · obtain ⟨v0, v1, v2, v3, v4, v5, v6, v7, v8⟩ := hV
      exact ⟨v0, v1, v2, hj, v4, v5, v6, v7, v8⟩
    · obtain ⟨m0, m1, m2, m3, m4, m5, m6, m7⟩ := hM0
      refine ⟨wr S0 35 0 9 (nI j), ?_, ⟨m0, m1, m2, wr_same _ _ _ _ _, m4, m5, m6, m7⟩, fun a ha => wr_kind (by omega)⟩
      simp only [fX11_seed, bi, bs]
      rw [if_pos h, m3]
  · refine same_ch (r := -1000000002) (S1 := S) hM ?_ (fun _ _ => rfl) hC hV (fun S0 hM0 => ⟨S0, ?_, hM0, fun _ _ => rfl⟩)
    · unfold fX10_seed; rw [if_neg h]
    · unfold fX11_seed; rw [if_neg h]
theorem same_tear : Same fX10_tear fX11_tear := by
  rintro S ⟨q, π, ν, us, im, d, fa, hC, hM, hV⟩
  obtain ⟨h0, h1, h2, h3, h4, h5, h6, h7, h8, h9⟩ := hC
  refine same_ch (q2 := va_up (va_up q 2 0) 3 0) (π2 := π) (ν2 := ν) (us2 := us) (im2 := im) (d2 := d) (fa2 := fa) (r := nI (q 2 + q 3)) (S1 := wr (wr S 20 0 3 0) 27 0 2 0) hM ?_ (fun a ha => by rw [wr_kind (by omega), wr_kind (by omega)]) ⟨h0, h1, h2, h3, h4, ⟨rfl, fun i h => absurd h (Nat.not_lt_zero _)⟩, ⟨rfl, fun i h => absurd h (Nat.not_lt_zero _)⟩, h7, h8, h9⟩ ?_ (fun S0 hM0 => ?_)
  · simp only [fX10_tear, bi, bs]
    rw [h5.1, h6.1, nI_add]
  · obtain ⟨v0, v1, v2, v3, v4, v5, v6, v7, v8⟩ := hV
    exact ⟨v0, v1, v2, v3, ⟨Nat.zero_le _, fun i h => absurd h (Nat.not_lt_zero _)⟩, ⟨Nat.zero_le _, fun i h => absurd h (Nat.not_lt_zero _)⟩, v6, v7, v8⟩
  · obtain ⟨m0, m1, m2, m3, m4, m5, m6, m7⟩ := hM0
    refine ⟨wr (wr S0 35 0 10 0) 35 0 14 0, ?_, ⟨m0, m1, m2, m3, ⟨rfl, fun i h => absurd h (Nat.not_lt_zero _)⟩, ⟨rfl, fun i h => absurd h (Nat.not_lt_zero _)⟩, m6, m7⟩, fun a ha => by rw [wr_kind (by omega), wr_kind (by omega)]⟩
    simp only [fX11_tear, bi, bs]
    rw [m4.1, m5.1, nI_add]
