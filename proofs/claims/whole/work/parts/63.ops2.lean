theorem same_feed (a : Int32) : Same (fX10_feed a) (fX11_feed a) := by
  rintro S ⟨q, π, ν, us, im, d, fa, hC, hM, hV⟩
  by_cases h : (0 : Int32) ≤ a ∧ a ≤ 255
  · obtain ⟨j, -, hj, rfl⟩ := nat_of (lo := 0) (hi := 255) (by decide) (by decide) h
    obtain ⟨v0, v1, v2, v3, v4, v5, v6, v7, v8⟩ := hV
    by_cases hf : q 0 < 240
    · obtain ⟨h0, h1, h2, h3, h4, h5, h6, h7, h8, h9⟩ := hC
      refine same_ch (q2 := va_up q 0 (q 0 + 1)) (π2 := π) (ν2 := ν) (us2 := us) (im2 := im) (d2 := fun x i => if x = 0 ∧ i = q 0 then j else d x i) (fa2 := fa) (r := nI (q 0 + 1)) (S1 := wr (wr S 2 0 (q 0) (nI j)) 1 0 1 (nI (q 0 + 1))) hM ?_ (fun a ha => by rw [wr_kind (by omega), wr_kind (by omega)]) ⟨h0, h1, h2, ⟨wr_same _ _ _ _ _, fun i hi => ?_, h3.2.2⟩, h4, h5, h6, h7, h8, h9⟩ ⟨v0, v1, ⟨by show q 0 + 1 ≤ 240; omega, fun i hi => ?_⟩, v3, v4, v5, v6, v7, v8⟩ (fun S0 hM0 => ?_)
      · simp only [fX10_feed, c_isOut, cal_s]
        rw [if_pos h, if_pos rfl, h3.1, if_pos (show nI (q 0) < (240 : Int32) from nI_lt hf (by decide))]
        simp only [fX8_add, bs]
        rw [h3.1]
        simp only [if_pos (show nI (q 0) < (240 : Int32) from nI_lt hf (by decide)), if_neg (show ¬ (240 : Int32) ≤ nI (q 0) from nI_ge hf (by decide)), ck_nI hf (show q 0 < 2 ^ 31 by omega), nI_clamp (show q 0 < 2 ^ 31 by omega)]
        show some ((S 1 0 1) + (1 : Int32), wr (wr S 2 0 (q 0) (nI j)) 1 0 1 ((S 1 0 1) + (1 : Int32))) = _
        rw [h3.1, nI_1]
      · have hi : i < q 0 + 1 := hi
        show (wr (wr S 2 0 (q 0) (nI j)) 1 0 1 (nI (q 0 + 1))) 2 0 i = nI (if 0 = 0 ∧ i = q 0 then j else d 0 i)
        rw [wr_i (by omega)]
        by_cases e : i = q 0
        · rw [e, wr_same, if_pos ⟨rfl, rfl⟩]
        · rw [wr_i (by omega), if_neg (fun z => e z.2)]; exact h3.2.1 i (by omega)
      · have hi : i < q 0 + 1 := hi
        show (if 0 = 0 ∧ i = q 0 then j else d 0 i) ≤ 255
        by_cases e : i = q 0
        · rw [if_pos ⟨rfl, e⟩]; exact hj
        · rw [if_neg (fun z => e z.2)]; exact v2.2 i (by omega)
      · obtain ⟨m0, m1, m2, m3, m4, m5, m6, m7⟩ := hM0
        refine ⟨wr (wr S0 46 0 (q 0) (nI j)) 35 0 18 (nI (q 0 + 1)), ?_, ⟨m0, m1, ⟨wr_same _ _ _ _ _, fun i hi => ?_, m2.2.2⟩, m3, m4, m5, m6, m7⟩, fun a ha => by rw [wr_kind (by omega), wr_kind (by omega)]⟩
        · simp only [fX11_feed, bs]
          rw [show (0 : Int64) = (0 : Int32).toInt64 from rfl, show (255 : Int64) = (255 : Int32).toInt64 from rfl, m_within, if_pos h, cal_s, if_neg (show ¬ (1 : Int32) = 0 by decide), m2.1, if_neg (show ¬ nI (q 0) = (240 : Int32) from fun z => by have := nI_inj (b := 240) (by omega) (by decide) z; omega), ck_nI hf (by omega), nI_clamp (by omega)]
          show some ((S0 35 0 18) + (1 : Int32), wr (wr S0 46 0 (q 0) (nI j)) 35 0 18 ((S0 35 0 18) + (1 : Int32))) = _
          rw [m2.1, nI_1]
        · have hi : i < q 0 + 1 := hi
          show (wr (wr S0 46 0 (q 0) (nI j)) 35 0 18 (nI (q 0 + 1))) 46 0 i = nI (if 0 = 0 ∧ i = q 0 then j else d 0 i)
          rw [wr_i (by omega)]
          by_cases e : i = q 0
          · rw [e, wr_same, if_pos ⟨rfl, rfl⟩]
          · rw [wr_i (by omega), if_neg (fun z => e z.2)]; exact m2.2.1 i (by omega)
    · have h240 : q 0 = 240 := by have := v2.1; omega
      refine same_ch (r := -1000000004) (S1 := S) hM ?_ (fun _ _ => rfl) hC ⟨v0, v1, v2, v3, v4, v5, v6, v7, v8⟩ (fun S0 hM0 => ⟨S0, ?_, hM0, fun _ _ => rfl⟩)
      · simp only [fX10_feed, c_isOut, cal_s]
        rw [if_pos h, if_pos rfl, hC.2.2.2.1.1, h240, if_neg (show ¬ nI 240 < (240 : Int32) by decide)]
      · simp only [fX11_feed, bs]
        rw [show (0 : Int64) = (0 : Int32).toInt64 from rfl, show (255 : Int64) = (255 : Int32).toInt64 from rfl, m_within, if_pos h, cal_s, if_neg (show ¬ (1 : Int32) = 0 by decide), hM0.2.2.1.1, h240, if_pos (show nI 240 = (240 : Int32) from rfl)]
  · refine same_ch (r := -1000000002) (S1 := S) hM ?_ (fun _ _ => rfl) hC hV (fun S0 hM0 => ⟨S0, ?_, hM0, fun _ _ => rfl⟩)
    · simp only [fX10_feed, c_isOut, cal_s]
      rw [if_neg h, if_neg (show ¬ (1 : Int32) = 0 by decide)]
    · simp only [fX11_feed, bs]
      rw [show (0 : Int64) = (0 : Int32).toInt64 from rfl, show (255 : Int64) = (255 : Int32).toInt64 from rfl, m_within, if_neg h, cal_s, if_pos rfl]
theorem same_saying (a b : Int32) : Same (fX10_saying a b) (fX11_saying a b) := by
  refine same_ro (fun S q π ν us im d fa hC hV => ?_)
  obtain ⟨h0, h1, h2, h3, h4, h5, h6, h7, h8, h9⟩ := id hC
  have hk := hC.k
  have hY : π 0 3 ≤ 8 := hV.1.2.2.2.2.1.1
  by_cases ha : isB a (π 0 3)
  · obtain ⟨s, hs, rfl⟩ := id ha
    by_cases hb : (0 : Int32) ≤ b ∧ b ≤ 1
    · by_cases hb0 : b = 0
      · refine ⟨nI (π 2 s), ?_, fun S0 hM => ⟨S0, ?_, Fr.rf⟩⟩
        · simp only [fX10_saying]
          rw [hk, cal_of (c_say1 (h1.1 3 (by decide)) hY ha), if_neg (show ¬ (1 : Int32) = 0 by decide), c_isOut, cal_s, if_pos hb, if_pos rfl, if_pos hb0, ck_nI (show s < 8 by omega) (by omega), hk, nI_clamp (by omega), (h1.2.2 s hs).1]
        · simp only [fX11_saying]
          rw [cal_of (m_say1 hM.1.2.2.2.1 hY ha), if_neg (show ¬ (1 : Int32) = 0 by decide), if_pos hb0, ck_nI (show s < 8 by omega) (by omega), nI_clamp (by omega), (hM.1.2.2.2.2.2 s hs).1]
      · have hb1 : b = 1 := by
          obtain ⟨j, -, hj, rfl⟩ := nat_of (lo := 0) (hi := 1) (by decide) (by decide) hb
          rcases (show j = 0 ∨ j = 1 by omega) with rfl | rfl
          · exact absurd rfl hb0
          · rfl
        refine ⟨nI (π 3 s), ?_, fun S0 hM => ⟨S0, ?_, Fr.rf⟩⟩
        · simp only [fX10_saying]
          rw [hk, cal_of (c_say1 (h1.1 3 (by decide)) hY ha), if_neg (show ¬ (1 : Int32) = 0 by decide), c_isOut, cal_s, if_pos hb, if_pos rfl, if_neg hb0, ck_nI (show s < 8 by omega) (by omega), hk, nI_clamp (by omega), (h1.2.2 s hs).2]
        · simp only [fX11_saying]
          rw [cal_of (m_say1 hM.1.2.2.2.1 hY ha), if_neg (show ¬ (1 : Int32) = 0 by decide), if_neg hb0, if_pos hb1, ck_nI (show s < 8 by omega) (by omega), nI_clamp (by omega), (hM.1.2.2.2.2.2 s hs).2]
    · refine ⟨-1000000002, ?_, fun S0 hM => ⟨S0, ?_, Fr.rf⟩⟩
      · simp only [fX10_saying]
        rw [hk, cal_of (c_say1 (h1.1 3 (by decide)) hY ha), if_neg (show ¬ (1 : Int32) = 0 by decide), c_isOut, cal_s, if_neg hb, if_neg (show ¬ (1 : Int32) = 0 by decide)]
      · simp only [fX11_saying]
        rw [cal_of (m_say1 hM.1.2.2.2.1 hY ha), if_neg (show ¬ (1 : Int32) = 0 by decide), if_neg (fun z => hb (by rw [z]; decide)), if_neg (fun z => hb (by rw [z]; decide))]
  · refine ⟨-1000000001, ?_, fun S0 hM => ⟨S0, ?_, Fr.rf⟩⟩
    · simp only [fX10_saying]
      rw [hk, cal_of (c_say0 (h1.1 3 (by decide)) hY ha), if_pos rfl]
    · simp only [fX11_saying]
      rw [cal_of (m_say0 hM.1.2.2.2.1 hY ha), if_pos rfl]
theorem same_hurt (a b : Int32) : Same (fX10_hurt a b) (fX11_hurt a b) := by
  refine same_ro (fun S q π ν us im d fa hC hV => ?_)
  obtain ⟨h0, h1, h2, h3, h4, h5, h6, h7, h8, h9⟩ := id hC
  have hk := hC.k
  have hY : π 0 3 ≤ 8 := hV.1.2.2.2.2.1.1
  have hMn : π 0 2 ≤ 6 := hV.1.2.2.1
  by_cases ha : isB a (π 0 2)
  · obtain ⟨m, hm, rfl⟩ := id ha
    by_cases hb : isB b (π 0 3)
    · obtain ⟨s, hs, rfl⟩ := id hb
      refine ⟨nI (pn π (fun p => ν (m + 1) (2 + p)) (fun p => ν (m + 1) (7 + p)) s), ?_, fun S0 hM => ?_⟩
      · simp only [fX10_hurt]
        rw [hk, cal_of (c_man1 (h1.1 2 (by decide)) hMn ha), if_neg (show ¬ (1 : Int32) = 0 by decide), hk, cal_of (c_say1 (h1.1 3 (by decide)) hY hb), if_neg (show ¬ (1 : Int32) = 0 by decide), ck_nI (show m < 6 by omega) (by omega), hk, nI_clamp (by omega), cal_of (c_pain h1.cy hV.1.2.2.2.2.1 (h2.sk hm) (hV.2.1.1.vs hm) hs)]
      · obtain ⟨S2, e2, f2⟩ := m_hurtOf (S := S0) (m := m) (s := s) hM.1.my hV.1.2.2.2.2.1 hM.2.1 hV.2.1.1 hMn hm hs
        refine ⟨S2, ?_, f2.mono (fun a o h => by omega)⟩
        simp only [fX11_hurt]
        rw [cal_of (m_man1 hM.1.2.2.1 hMn ha), if_neg (show ¬ (1 : Int32) = 0 by decide), cal_of (m_say1 hM.1.2.2.2.1 hY hb), if_neg (show ¬ (1 : Int32) = 0 by decide), cal_of e2]
    · refine ⟨-1000000001, ?_, fun S0 hM => ⟨S0, ?_, Fr.rf⟩⟩
      · simp only [fX10_hurt]
        rw [hk, cal_of (c_man1 (h1.1 2 (by decide)) hMn ha), if_neg (show ¬ (1 : Int32) = 0 by decide), hk, cal_of (c_say0 (h1.1 3 (by decide)) hY hb), if_pos rfl]
      · simp only [fX11_hurt]
        rw [cal_of (m_man1 hM.1.2.2.1 hMn ha), if_neg (show ¬ (1 : Int32) = 0 by decide), cal_of (m_say0 hM.1.2.2.2.1 hY hb), if_pos rfl]
  · refine ⟨-1000000001, ?_, fun S0 hM => ⟨S0, ?_, Fr.rf⟩⟩
    · simp only [fX10_hurt]
      rw [hk, cal_of (c_man0 (h1.1 2 (by decide)) hMn ha), if_pos rfl]
    · simp only [fX11_hurt]
      rw [cal_of (m_man0 hM.1.2.2.1 hMn ha), if_pos rfl]
