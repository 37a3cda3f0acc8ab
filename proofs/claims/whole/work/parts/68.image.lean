def upi (im : Nat → Nat → Nat → Nat) (i : Nat) (ν : Nat → Nat → Nat) : Nat → Nat → Nat → Nat := fun j => if j = i then ν else im j
theorem upi_same {im : Nat → Nat → Nat → Nat} {i : Nat} {ν : Nat → Nat → Nat} : upi im i ν i = ν := if_pos rfl
theorem upi_ne {im : Nat → Nat → Nat → Nat} {i j : Nat} {ν : Nat → Nat → Nat} (h : j ≠ i) : upi im i ν j = im j := if_neg h
theorem IC.parts {S S1 : St} {q q2 : Nat → Nat} {π ν ν2 : Nat → Nat → Nat} {us im us2 im2 : Nat → Nat → Nat → Nat} {d d2 : Nat → Nat → Nat} {fa : Int32} (h : IC S q π ν us im d fa) (e7 : q2 7 = q 7) (e0 : q2 0 = q 0) (e2 : q2 2 = q 2) (e3 : q2 3 = q 3) (d0 : d2 0 = d 0) (d1 : d2 1 = d 1) (d2_ : d2 2 = d 2) (d3 : d2 3 = d 3) (d4 : d2 4 = d 4) (d5 : d2 5 = d 5)
    (f : Fr (fun a o => (a = 9 ∧ o = 0) ∨ ((a = 11 ∨ a = 12 ∨ a = 13) ∧ o < 6) ∨ a = 14 ∨ a = 17 ∨ a = 18 ∨ a = 19) S S1) (hN : CN S1 (q 7) (π 0 2) (π 1) ν2) (hr : S1 19 0 0 = nI (q2 1)) (hU : US S1 (π 0 2) (q2 4) (q2 5) us2) (h6 : S1 14 0 5 = nI (q2 6)) (hi : ∀ i, i < 2 → (q2 6).testBit i = true → RW (S1 17 (16 + i)) (π 0 2) (im2 i) ∧ S1 18 0 i = nI (d2 6 i)) : IC S1 q2 π ν2 us2 im2 d2 fa := by
  obtain ⟨h0, h1, h2, h3, h4, h5, h6b, h7, h8, h9⟩ := h
  refine ⟨?_, ?_, by rw [e7]; exact hN, ?_, hr, ?_, ?_, hU, h6, hi⟩
  · rw [f 0 0 (by omega), f 33 0 (by omega), f 34 0 (by omega), e7]; exact h0
  · rw [e7]; exact h1.fr (f 3 _ (by omega)) (f 4 _ (by omega)) (fun o => f 6 o (by omega)) (f 7 _ (by omega)) (f 8 _ (by omega))
  · rw [f 1 0 (by omega), f 2 0 (by omega), e0, d0]; exact h3
  · rw [f 20 0 (by omega), f 21 0 (by omega), f 22 0 (by omega), f 23 0 (by omega), e2, d1, d2_, d3]; exact h5
  · rw [f 27 0 (by omega), f 28 0 (by omega), f 29 0 (by omega), e3, d4, d5]; exact h6b
theorem same_keep (a : Int32) : Same (fX10_keep a) (fX11_keep a) := by
  rintro S ⟨q, π, ν, us, im, d, fa, hC, hM, hV⟩
  have w1 : ∀ S0, fX11_within a.toInt64 (0 : Int64) (1 : Int64) S0 = some (if (0 : Int32) ≤ a ∧ a ≤ 1 then 1 else 0, S0) := fun S0 => m_within a 0 1 S0
  by_cases h : (0 : Int32) ≤ a ∧ a ≤ 1
  · obtain ⟨i, -, hi, rfl⟩ := nat_of (lo := 0) (hi := 1) (by decide) (by decide) h
    obtain ⟨v0, v1, v2, v3, v4, v5, v6, v7, v8⟩ := id hV
    obtain ⟨S1, e1, f1, r1⟩ := c_save (o := 16 + i) hC.2.1 hC.2.2.1 hV.1
    have hor : nI (q 6) ||| ((1 : Int32) <<< (nI i &&& (31 : Int32))) = nI (q 6 ||| 2 ^ i) := or_sh _ (by omega) i (by omega)
    have hbit : ∀ j, j < 2 → ((q 6 ||| 2 ^ i).testBit j = true ↔ (j = i ∨ (q 6).testBit j = true)) := by
      intro j hj
      rw [Nat.testBit_or, Nat.testBit_two_pow, Bool.or_eq_true, decide_eq_true_eq]
      constructor
      · rintro (z | z)
        · exact Or.inr z
        · exact Or.inl z.symm
      · rintro (z | z)
        · exact Or.inr z.symm
        · exact Or.inl z
    have hlt : q 6 ||| 2 ^ i < 4 := by
      have : 2 ^ i < 2 ^ 2 := Nat.pow_lt_pow_right (by decide) (by omega)
      exact Nat.or_lt_two_pow (n := 2) (by omega) this
    refine same_ch (q2 := va_up (va_up q 4 0) 6 (q 6 ||| 2 ^ i)) (π2 := π) (ν2 := ν) (us2 := us) (im2 := upi im i ν) (d2 := upn d 6 i (q 1)) (fa2 := fa) (r := 1) (S1 := wr (wr (wr S1 18 0 i (nI (q 1))) 14 0 5 (nI (q 6 ||| 2 ^ i))) 14 0 2 0) hM ?_ (fun a ha => by rw [wr_kind (by omega), wr_kind (by omega), wr_kind (by omega), kind_of f1 (fun o => by omega)]) ?_ ?_ (fun S0 m0 => ?_)
    · unfold fX10_keep
      rw [c_isOut, cal_s, if_pos h, if_pos rfl]
      have e2 : fX4_keepImage (nI i) S = some (0, wr (wr S1 18 0 i (nI (q 1))) 14 0 5 (nI (q 6 ||| 2 ^ i))) := by
        simp only [fX4_keepImage, bs]
        rw [ck_nI (show i < 2 by omega) (by omega), nI_clamp (by omega), cal_of e1, ck_nI (show i < 2 by omega) (by omega), f1 19 0 (by omega), hC.2.2.2.2.1, wr_i (a2 := 14) (by omega), f1 14 0 (by omega), hC.2.2.2.2.2.2.2.2.1, hor]
      rw [cal_of e2]
      rfl
    · have fr : Fr (fun a o => (a = 9 ∧ o = 0) ∨ ((a = 11 ∨ a = 12 ∨ a = 13) ∧ o < 6) ∨ a = 14 ∨ a = 17 ∨ a = 18 ∨ a = 19) S (wr (wr (wr S1 18 0 i (nI (q 1))) 14 0 5 (nI (q 6 ||| 2 ^ i))) 14 0 2 0) := (((f1.mono (fun a o h => by omega)).wr (by omega)).wr (by omega)).wr (by omega)
      have hu7 := hC.2.2.2.2.2.2.2.1
      refine hC.parts rfl rfl rfl rfl rfl rfl rfl rfl rfl rfl fr (hC.2.2.1.fr hV.1.2.2.1 ?_ ?_) ?_ ⟨?_, hu7.2.1, ?_, ?_, fun j hj => absurd hj (Nat.not_lt_zero _)⟩ ?_ (fun j hj hb => ?_)
      · rw [wr_other (by omega), wr_other (by omega), wr_other (by omega), f1 9 0 (by omega)]
      · intro a o ha ho
        rw [wr_other (by omega), wr_other (by omega), wr_other (by omega), f1 a o (by omega)]
      · rw [wr_i (by omega), wr_i (by omega), wr_i (by omega), f1 19 0 (by omega)]; exact hC.2.2.2.2.1
      · rw [wr_i (by omega), wr_i (by omega), wr_i (by omega), f1 14 0 (by omega)]; exact hu7.1
      · exact wr_same _ _ _ _ _
      · exact Nat.zero_le _
      · rw [wr_i (by omega)]; exact wr_same _ _ _ _ _
      · have hb : (q 6 ||| 2 ^ i).testBit j = true := hb
        rw [wr_other (a2 := 17) (by omega), wr_other (a2 := 17) (by omega), wr_other (a2 := 17) (by omega), wr_i (a2 := 18) (by omega), wr_i (a2 := 18) (by omega)]
        by_cases e : j = i
        · subst e
          rw [upi_same, upn_same, wr_same]
          exact ⟨r1, rfl⟩
        · rw [upi_ne e, upn_ne (by omega), wr_i (by omega), f1 17 _ (by omega), f1 18 0 (by omega)]
          exact hC.2.2.2.2.2.2.2.2.2 j hj (((hbit j hj).mp hb).resolve_left e)
    · refine ⟨v0, v1, v2, v3, v4, v5, fun j hj => absurd hj (Nat.not_lt_zero _), hlt, fun j hj hb => ?_⟩
      have hb : (q 6 ||| 2 ^ i).testBit j = true := hb
      by_cases e : j = i
      · subst e; rw [upi_same, upn_same]; exact ⟨v1, v3⟩
      · rw [upi_ne e, upn_ne (by omega)]; exact v8 j hj (((hbit j hj).mp hb).resolve_left e)
    · obtain ⟨m0, m1, m2, m3, m4, m5, m6, m7⟩ := m0
      obtain ⟨S2, e2, f2, n2, n3⟩ := m_keep15 (S := S0) (a := i) (by omega)
      refine ⟨wr (wr (wr S2 59 0 (71 * i + 70) (nI (q 1))) 60 0 i 1) 35 0 34 0, ?_, ⟨?_, ?_, ?_, ?_, ?_, ?_, ⟨wr_same _ _ _ _ _, fun j hj => absurd hj (Nat.not_lt_zero _)⟩, fun j hj => ?_⟩, fun a ha => by rw [wr_kind (by omega), wr_kind (by omega), wr_kind (by omega), kind_of f2 (fun o => by omega)]⟩
      · unfold fX11_keep
        rw [w1, cal_s, if_pos h, if_neg n10, jn_e, e2, show (71 : Int32) = nI 71 from rfl, show (70 : Int32) = nI 70 from rfl, pk_mul, nI_add, ck_nI (show 71 * i + 70 < 142 by omega) (by omega), bs_e, ck_nI (show i < 2 by omega) (by omega), bs_e, bs_e, nI_clamp (by omega), nI_clamp (by omega), f2 35 0 (by omega), m3, show vp_nar .boolean 1 = 1 from rfl]
      · have g : ∀ x, x ≠ 34 → wr (wr (wr S2 59 0 (71 * i + 70) (nI (q 1))) 60 0 i 1) 35 0 34 0 35 0 x = S0 35 0 x := fun x hx => by rw [wr_i (by omega), wr_other (a2 := 35) (by omega), wr_other (a2 := 35) (by omega), f2 35 0 (by omega)]
        unfold MP
        rw [g 0 (by decide), g 1 (by decide), g 2 (by decide), g 5 (by decide), wr_other (a2 := 36) (by omega), wr_other (a2 := 36) (by omega), wr_other (a2 := 36) (by omega), f2 36 0 (by omega), wr_other (a2 := 37) (by omega), wr_other (a2 := 37) (by omega), wr_other (a2 := 37) (by omega), f2 37 0 (by omega), wr_other (a2 := 38) (by omega), wr_other (a2 := 38) (by omega), wr_other (a2 := 38) (by omega), f2 38 0 (by omega), wr_other (a2 := 39) (by omega), wr_other (a2 := 39) (by omega), wr_other (a2 := 39) (by omega), f2 39 0 (by omega)]
        exact m0
      · rw [wr_other (by omega), wr_other (by omega), wr_other (by omega), f2 40 0 (by omega)]; exact m1
      · rw [wr_i (a2 := 35) (i2 := 18) (by omega), wr_i (a2 := 35) (i2 := 19) (by omega), wr_other (a2 := 35) (by omega), wr_other (a2 := 35) (by omega), f2 35 0 (by omega), wr_other (a2 := 46) (by omega), wr_other (a2 := 46) (by omega), wr_other (a2 := 46) (by omega), f2 46 0 (by omega)]; exact m2
      · rw [wr_i (a2 := 35) (i2 := 9) (by omega), wr_other (a2 := 35) (by omega), wr_other (a2 := 35) (by omega), f2 35 0 (by omega)]; exact m3
      · rw [wr_i (a2 := 35) (i2 := 10) (by omega), wr_other (a2 := 35) (by omega), wr_other (a2 := 35) (by omega), f2 35 0 (by omega), wr_other (a2 := 41) (by omega), wr_other (a2 := 41) (by omega), wr_other (a2 := 41) (by omega), f2 41 0 (by omega), wr_other (a2 := 42) (by omega), wr_other (a2 := 42) (by omega), wr_other (a2 := 42) (by omega), f2 42 0 (by omega), wr_other (a2 := 43) (by omega), wr_other (a2 := 43) (by omega), wr_other (a2 := 43) (by omega), f2 43 0 (by omega)]; exact m4
      · rw [wr_i (a2 := 35) (i2 := 14) (by omega), wr_other (a2 := 35) (by omega), wr_other (a2 := 35) (by omega), f2 35 0 (by omega), wr_other (a2 := 44) (by omega), wr_other (a2 := 44) (by omega), wr_other (a2 := 44) (by omega), f2 44 0 (by omega), wr_other (a2 := 45) (by omega), wr_other (a2 := 45) (by omega), wr_other (a2 := 45) (by omega), f2 45 0 (by omega)]; exact m5
      · show wr (wr (wr S2 59 0 (71 * i + 70) (nI (q 1))) 60 0 i 1) 35 0 34 0 60 0 j = (if (q 6 ||| 2 ^ i).testBit j = true then 1 else 0) ∧ ((q 6 ||| 2 ^ i).testBit j = true → _)
        rw [wr_i (a2 := 60) (a := 35) (by omega)]
        by_cases e : j = i
        · subst e
          rw [if_pos ((hbit j hj).mpr (Or.inl rfl)), wr_same]
          refine ⟨rfl, fun _ => ⟨?_, ?_⟩⟩
          · rw [upi_same]
            refine m1.cong hV.1.2.2.1 (fun x hx => ?_)
            rw [wr_other (a2 := 59) (by omega), wr_other (a2 := 59) (by omega), wr_i (by omega), n2 x hx]
          · rw [upn_same, wr_other (a2 := 59) (by omega), wr_other (a2 := 59) (by omega), wr_same]
        · rw [wr_i (a2 := 60) (by omega), wr_other (a2 := 60) (by omega), f2 60 0 (by omega), (m7 j hj).1]
          refine ⟨?_, fun hb => ⟨?_, ?_⟩⟩
          · by_cases hb : (q 6).testBit j = true
            · rw [if_pos hb, if_pos ((hbit j hj).mpr (Or.inr hb))]
            · rw [if_neg hb, if_neg (fun z => hb (((hbit j hj).mp z).resolve_left e))]
          · rw [upi_ne e]
            refine ((m7 j hj).2 (((hbit j hj).mp hb).resolve_left e)).1.cong hV.1.2.2.1 (fun x hx => ?_)
            rw [wr_other (a2 := 59) (by omega), wr_other (a2 := 59) (by omega), wr_i (by omega), n3 _ (by omega)]
          · rw [upn_ne (by omega), wr_other (a2 := 59) (by omega), wr_other (a2 := 59) (by omega), wr_i (by omega), n3 _ (by omega)]
            exact ((m7 j hj).2 (((hbit j hj).mp hb).resolve_left e)).2
  · refine same_no (r := -1000000001) hC hM hV ?_ (fun S0 h0 => ?_)
    · unfold fX10_keep
      rw [c_isOut, cal_s, if_neg h, if_neg n10]
    · unfold fX11_keep
      rw [w1, cal_s, if_neg h, if_pos rfl]
