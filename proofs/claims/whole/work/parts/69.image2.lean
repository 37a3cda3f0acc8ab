theorem same_goBack (a : Int32) : Same (fX10_goBack a) (fX11_goBack a) := by
  rintro S ⟨q, π, ν, us, im, d, fa, hC, hM, hV⟩
  have w1 : ∀ S0, fX11_within a.toInt64 (0 : Int64) (1 : Int64) S0 = some (if (0 : Int32) ≤ a ∧ a ≤ 1 then 1 else 0, S0) := fun S0 => m_within a 0 1 S0
  by_cases h : (0 : Int32) ≤ a ∧ a ≤ 1
  · obtain ⟨i, -, hi, rfl⟩ := nat_of (lo := 0) (hi := 1) (by decide) (by decide) h
    obtain ⟨v0, v1, v2, v3, v4, v5, v6, v7, v8⟩ := id hV
    have h8 := hC.2.2.2.2.2.2.2.2.1
    have hb0 : fX4_hasImage (nI i) S = some (if (q 6).testBit i = true then 1 else 0, S) := by
      unfold fX4_hasImage
      rw [h8, bit_sh (q 6) (by omega) i (by omega)]
      by_cases hb : (q 6).testBit i = true
      · rw [if_pos hb, if_pos rfl]
      · rw [if_neg hb, if_neg (by decide)]
    by_cases hb : (q 6).testBit i = true
    · have im1 := hC.2.2.2.2.2.2.2.2.2 i (by omega) hb
      obtain ⟨S1, e1, f1, n1⟩ := c_load hC.2.1 hC.2.2.1 hV.1 im1.1
      have hu7 := hC.2.2.2.2.2.2.2.1
      refine same_ch (q2 := va_up (va_up q 4 0) 1 (d 6 i)) (π2 := π) (ν2 := im i) (us2 := us) (im2 := im) (d2 := d) (fa2 := fa) (r := 1) (S1 := wr (wr S1 19 0 0 (nI (d 6 i))) 14 0 2 0) hM ?_ (fun a ha => by rw [wr_kind (by omega), wr_kind (by omega), kind_of f1 (fun o => by omega)]) ?_ ⟨v0, (v8 i (by omega) hb).1, v2, (v8 i (by omega) hb).2, v4, v5, fun j hj => absurd hj (Nat.not_lt_zero _), v7, v8⟩ (fun S0 m0 => ?_)
      · unfold fX10_goBack
        rw [c_isOut, cal_s, if_pos h, if_pos rfl, cal_of hb0, if_pos hb, if_neg n10]
        have e2 : fX4_loadImage (nI i) S = some (0, wr S1 19 0 0 (nI (d 6 i))) := by
          simp only [fX4_loadImage, bs]
          rw [ck_nI (show i < 2 by omega) (by omega), nI_clamp (by omega), cal_of e1, ck_nI (show i < 2 by omega) (by omega), f1 18 0 (by omega), im1.2]
        rw [cal_of e2]
        rfl
      · have fr : Fr (fun a o => (a = 9 ∧ o = 0) ∨ ((a = 11 ∨ a = 12 ∨ a = 13) ∧ o < 6) ∨ a = 14 ∨ a = 17 ∨ a = 18 ∨ a = 19) S (wr (wr S1 19 0 0 (nI (d 6 i))) 14 0 2 0) := ((f1.mono (fun a o h => by omega)).wr (by omega)).wr (by omega)
        refine hC.parts rfl rfl rfl rfl rfl rfl rfl rfl rfl rfl fr (n1.fr hV.1.2.2.1 ?_ ?_) ?_ ⟨?_, hu7.2.1, ?_, ?_, fun j hj => absurd hj (Nat.not_lt_zero _)⟩ ?_ (fun j hj hb => ?_)
        · rw [wr_other (by omega), wr_other (by omega)]
        · intro a o ha ho
          rw [wr_other (by omega), wr_other (by omega)]
        · rw [wr_i (by omega)]; exact wr_same _ _ _ _ _
        · rw [wr_i (by omega), wr_i (by omega), f1 14 0 (by omega)]; exact hu7.1
        · exact wr_same _ _ _ _ _
        · exact Nat.zero_le _
        · rw [wr_i (by omega), wr_i (by omega), f1 14 0 (by omega)]; exact h8
        · rw [wr_other (a2 := 17) (by omega), wr_other (a2 := 17) (by omega), wr_other (a2 := 18) (by omega), wr_other (a2 := 18) (by omega), f1 17 _ (by omega), f1 18 0 (by omega)]
          exact hC.2.2.2.2.2.2.2.2.2 j hj hb
      · obtain ⟨m0, m1, m2, m3, m4, m5, m6, m7⟩ := m0
        obtain ⟨S2, e2, f2, n2⟩ := m_back27 (S := S0) (a := i) (by omega)
        have mi := (m7 i (by omega)).2 hb
        have g : ∀ x, x ≠ 34 → x ≠ 9 → wr (wr S2 35 0 9 (nI (d 6 i))) 35 0 34 0 35 0 x = S0 35 0 x := fun x hx hx2 => by rw [wr_i (by omega), wr_i (by omega), f2 35 0 (by omega)]
        have g2 : ∀ a, a ≠ 35 → a ≠ 40 → wr (wr S2 35 0 9 (nI (d 6 i))) 35 0 34 0 a 0 = S0 a 0 := fun a ha hb => by rw [wr_other (by omega), wr_other (by omega), f2 a 0 (by omega)]
        refine ⟨wr (wr S2 35 0 9 (nI (d 6 i))) 35 0 34 0, ?_, ⟨?_, ?_, ?_, ?_, ?_, ?_, ⟨wr_same _ _ _ _ _, fun j hj => absurd hj (Nat.not_lt_zero _)⟩, fun j hj => ?_⟩, fun a ha => by rw [wr_kind (by omega), wr_kind (by omega), kind_of f2 (fun o => by omega)]⟩
        · unfold fX11_goBack
          rw [w1, cal_s, if_pos h, if_neg n10, ck_nI (show i < 2 by omega) (by omega), nI_clamp (by omega), (m7 i (by omega)).1, if_pos hb, if_neg n10, jn_e, e2, show (71 : Int32) = nI 71 from rfl, show (70 : Int32) = nI 70 from rfl, pk_mul, nI_add, ck_nI (show 71 * i + 70 < 142 by omega) (by omega), bs_e, bs_e, nI_clamp (by omega), f2 59 0 (by omega), mi.2]
        · unfold MP
          rw [g 0 (by decide) (by decide), g 1 (by decide) (by decide), g 2 (by decide) (by decide), g 5 (by decide) (by decide), g2 36 (by decide) (by decide), g2 37 (by decide) (by decide), g2 38 (by decide) (by decide), g2 39 (by decide) (by decide)]
          exact m0
        · refine mi.1.cong hV.1.2.2.1 (fun x hx => ?_)
          rw [wr_other (by omega), wr_other (by omega)]; exact n2 x hx
        · rw [g 18 (by decide) (by decide), g 19 (by decide) (by decide), g2 46 (by decide) (by decide)]; exact m2
        · rw [wr_i (by omega)]; exact wr_same _ _ _ _ _
        · rw [g 10 (by decide) (by decide), g2 41 (by decide) (by decide), g2 42 (by decide) (by decide), g2 43 (by decide) (by decide)]; exact m4
        · rw [g 14 (by decide) (by decide), g2 44 (by decide) (by decide), g2 45 (by decide) (by decide)]; exact m5
        · rw [g2 60 (by decide) (by decide), g2 59 (by decide) (by decide)]; exact m7 j hj
    · refine same_no (r := -1000000003) hC hM hV ?_ (fun S0 h0 => ?_)
      · unfold fX10_goBack
        rw [c_isOut, cal_s, if_pos h, if_pos rfl, cal_of hb0, if_neg hb, if_pos rfl]
      · unfold fX11_goBack
        rw [w1, cal_s, if_pos h, if_neg n10, ck_nI (show i < 2 by omega) (by omega), nI_clamp (by omega), (h0.2.2.2.2.2.2.2 i (by omega)).1, if_neg hb, if_pos rfl]
  · refine same_no (r := -1000000001) hC hM hV ?_ (fun S0 h0 => ?_)
    · unfold fX10_goBack
      rw [c_isOut, cal_s, if_neg h, if_neg n10]
    · unfold fX11_goBack
      rw [w1, cal_s, if_neg h, if_pos rfl]
