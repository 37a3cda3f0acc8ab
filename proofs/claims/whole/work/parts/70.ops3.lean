theorem same_hear (a b c : Int32) : Same (fX10_hear a b c) (fX11_hear a b c) := by
  rintro S ⟨q, π, ν, us, im, d, fa, hC, hM, hV⟩
  have hk := hC.k
  have w1 : ∀ S0, fX11_within c.toInt64 (0 : Int64) (99 : Int64) S0 = some (if (0 : Int32) ≤ c ∧ c ≤ 99 then 1 else 0, S0) := fun S0 => m_within c 0 99 S0
  have hY : π 0 3 ≤ 8 := hV.1.2.2.2.2.1.1
  have hMn : π 0 2 ≤ 6 := hV.1.2.2.1
  by_cases ha : isB a (π 0 2)
  · by_cases hb : isB b (π 0 3)
    · by_cases hc : (0 : Int32) ≤ c ∧ c ≤ 99
      · by_cases hf : q 2 < 6
        · obtain ⟨m, hm, rfl⟩ := id ha
          obtain ⟨s, hs, rfl⟩ := id hb
          obtain ⟨v, -, hv, rfl⟩ := nat_of (lo := 0) (hi := 99) (by decide) (by decide) hc
          obtain ⟨h0, h1, h2, h3, h4, h5, h6, h7, h8, h9⟩ := id hC
          obtain ⟨v0, v1, v2, v3, v4, v5, v6, v7, v8⟩ := id hV
          refine same_ch (q2 := va_up q 2 (q 2 + 1)) (π2 := π) (ν2 := ν) (us2 := us) (im2 := im) (d2 := upn (upn (upn d 1 (q 2) m) 2 (q 2) s) 3 (q 2) v) (fa2 := fa) (r := nI (q 2 + 1)) (S1 := wr (wr (wr (wr S 21 0 (q 2) (nI m)) 22 0 (q 2) (nI s)) 23 0 (q 2) (nI v)) 20 0 3 (nI (q 2 + 1))) hM ?_ (fun a ha => by rw [wr_kind (by omega), wr_kind (by omega), wr_kind (by omega), wr_kind (by omega)]) ⟨h0, h1, h2, h3, h4, ⟨wr_same _ _ _ _ _, fun i hi => ?_⟩, h6, h7, h8, h9⟩ ⟨v0, v1, v2, v3, ⟨?_, fun i hi => ?_⟩, v5, v6, v7, v8⟩ (fun S0 hM0 => ?_)
          · have c6 : nI (q 2) < (6 : Int32) := nI_lt hf (by decide)
            have d6 : ¬ (6 : Int32) ≤ nI (q 2) := nI_ge hf (by decide)
            have e2 : fX2_add (nI m) (nI s) (nI v) S = some (nI (q 2 + 1), wr (wr (wr (wr S 21 0 (q 2) (nI m)) 22 0 (q 2) (nI s)) 23 0 (q 2) (nI v)) 20 0 3 (nI (q 2 + 1))) := by
              simp (disch := omega) only [fX2_add, bs, h5.1, if_neg d6, ck_nI, nI_clamp, wr_same, wr_i, nI_1]
            unfold fX10_hear
            rw [hk, cal_of (c_man1 (h1.1 2 (by decide)) hMn ha), if_neg n10, hk, cal_of (c_say1 (h1.1 3 (by decide)) hY hb), if_neg n10, c_isOut, cal_s, if_pos hc, if_pos rfl, h5.1, if_pos c6, cal_of e2]
          · have hi : i < q 2 + 1 := hi
            by_cases e : i = q 2
            · subst e
              simp (disch := omega) only [wr_same, wr_i, upn_same, upn_ne, and_self]
            · simp (disch := omega) only [wr_i, upn_ne]
              exact h5.2 i (by omega)
          · show q 2 + 1 ≤ 6
            omega
          · have hi : i < q 2 + 1 := hi
            by_cases e : i = q 2
            · subst e
              simp (disch := omega) only [upn_same, upn_ne]
              exact ⟨hm, hs, hv⟩
            · simp (disch := omega) only [upn_ne]
              exact v4.2 i (by omega)
          · obtain ⟨m0, m1, m2, m3, m4, m5, m6, m7⟩ := id hM0
            refine ⟨wr (wr (wr (wr S0 41 0 (q 2) (nI m)) 42 0 (q 2) (nI s)) 43 0 (q 2) (nI v)) 35 0 10 (nI (q 2 + 1)), ?_, ⟨m0, m1, m2, m3, ⟨wr_same _ _ _ _ _, fun i hi => ?_⟩, m5, m6, m7⟩, fun a ha => by rw [wr_kind (by omega), wr_kind (by omega), wr_kind (by omega), wr_kind (by omega)]⟩
            · have c6 : ¬ nI (q 2) = (6 : Int32) := fun z => by have := nI_inj (b := 6) (by omega) (by decide) z; omega
              unfold fX11_hear
              rw [cal_of (m_man1 m0.2.2.1 hMn ha), if_neg n10, cal_of (m_say1 m0.2.2.2.1 hY hb), if_neg n10, w1, cal_s, if_pos hc, if_neg n10, m4.1, if_neg c6]
              simp (disch := omega) only [bs, m4.1, ck_nI, nI_clamp, wr_same, wr_i, nI_1]
            · have hi : i < q 2 + 1 := hi
              by_cases e : i = q 2
              · subst e
                simp (disch := omega) only [wr_same, wr_i, upn_same, upn_ne, and_self]
              · simp (disch := omega) only [wr_i, upn_ne]
                exact m4.2 i (by omega)
        · have h240 : q 2 = 6 := by have := hV.2.2.2.2.1.1; omega
          refine same_no (r := -1000000004) hC hM hV ?_ (fun S0 h0 => ?_)
          · unfold fX10_hear
            rw [hk, cal_of (c_man1 (hC.2.1.1 2 (by decide)) hMn ha), if_neg n10, hk, cal_of (c_say1 (hC.2.1.1 3 (by decide)) hY hb), if_neg n10, c_isOut, cal_s, if_pos hc, if_pos rfl, hC.2.2.2.2.2.1.1, h240, if_neg (by decide)]
          · unfold fX11_hear
            rw [cal_of (m_man1 h0.1.2.2.1 hMn ha), if_neg n10, cal_of (m_say1 h0.1.2.2.2.1 hY hb), if_neg n10, w1, cal_s, if_pos hc, if_neg n10, h0.2.2.2.2.1.1, h240, if_pos (by decide)]
      · refine same_no (r := -1000000002) hC hM hV ?_ (fun S0 h0 => ?_)
        · unfold fX10_hear
          rw [hk, cal_of (c_man1 (hC.2.1.1 2 (by decide)) hMn ha), if_neg n10, hk, cal_of (c_say1 (hC.2.1.1 3 (by decide)) hY hb), if_neg n10, c_isOut, cal_s, if_neg hc, if_neg n10]
        · unfold fX11_hear
          rw [cal_of (m_man1 h0.1.2.2.1 hMn ha), if_neg n10, cal_of (m_say1 h0.1.2.2.2.1 hY hb), if_neg n10, w1, cal_s, if_neg hc, if_pos rfl]
    · refine same_no (r := -1000000001) hC hM hV ?_ (fun S0 h0 => ?_)
      · unfold fX10_hear
        rw [hk, cal_of (c_man1 (hC.2.1.1 2 (by decide)) hMn ha), if_neg n10, hk, cal_of (c_say0 (hC.2.1.1 3 (by decide)) hY hb), if_pos rfl]
      · unfold fX11_hear
        rw [cal_of (m_man1 h0.1.2.2.1 hMn ha), if_neg n10, cal_of (m_say0 h0.1.2.2.2.1 hY hb), if_pos rfl]
  · refine same_no (r := -1000000001) hC hM hV ?_ (fun S0 h0 => ?_)
    · unfold fX10_hear
      rw [hk, cal_of (c_man0 (hC.2.1.1 2 (by decide)) hMn ha), if_pos rfl]
    · unfold fX11_hear
      rw [cal_of (m_man0 h0.1.2.2.1 hMn ha), if_pos rfl]
theorem same_write (a b : Int32) : Same (fX10_write a b) (fX11_write a b) := by
  rintro S ⟨q, π, ν, us, im, d, fa, hC, hM, hV⟩
  have hk := hC.k
  have w1 : ∀ S0, fX11_within b.toInt64 (0 : Int64) (99999 : Int64) S0 = some (if (0 : Int32) ≤ b ∧ b ≤ 99999 then 1 else 0, S0) := fun S0 => m_within b 0 99999 S0
  have hMn : π 0 2 ≤ 6 := hV.1.2.2.1
  by_cases ha : isB a (π 0 2)
  · by_cases hc : (0 : Int32) ≤ b ∧ b ≤ 99999
    · by_cases hf : q 3 < 15
      · obtain ⟨m, hm, rfl⟩ := id ha
        obtain ⟨v, -, hv, rfl⟩ := nat_of (lo := 0) (hi := 99999) (by decide) (by decide) hc
        obtain ⟨h0, h1, h2, h3, h4, h5, h6, h7, h8, h9⟩ := id hC
        obtain ⟨v0, v1, v2, v3, v4, v5, v6, v7, v8⟩ := id hV
        refine same_ch (q2 := va_up q 3 (q 3 + 1)) (π2 := π) (ν2 := ν) (us2 := us) (im2 := im) (d2 := upn (upn d 4 (q 3) m) 5 (q 3) v) (fa2 := fa) (r := nI (q 3 + 1)) (S1 := wr (wr (wr S 28 0 (q 3) (nI m)) 29 0 (q 3) (nI v)) 27 0 2 (nI (q 3 + 1))) hM ?_ (fun a ha => by rw [wr_kind (by omega), wr_kind (by omega), wr_kind (by omega)]) ⟨h0, h1, h2, h3, h4, h5, ⟨wr_same _ _ _ _ _, fun i hi => ?_⟩, h7, h8, h9⟩ ⟨v0, v1, v2, v3, v4, ⟨?_, fun i hi => ?_⟩, v6, v7, v8⟩ (fun S0 hM0 => ?_)
        · have c6 : nI (q 3) < (15 : Int32) := nI_lt hf (by decide)
          have d6 : ¬ (15 : Int32) ≤ nI (q 3) := nI_ge hf (by decide)
          have e2 : fX0_add (nI m) (nI v) S = some (nI (q 3 + 1), wr (wr (wr S 28 0 (q 3) (nI m)) 29 0 (q 3) (nI v)) 27 0 2 (nI (q 3 + 1))) := by
            simp (disch := omega) only [fX0_add, bs, h6.1, if_neg d6, ck_nI, nI_clamp, wr_same, wr_i, nI_1]
          unfold fX10_write
          rw [hk, cal_of (c_man1 (h1.1 2 (by decide)) hMn ha), if_neg n10, c_isOut, cal_s, if_pos hc, if_pos rfl, h6.1, if_pos c6, cal_of e2]
        · have hi : i < q 3 + 1 := hi
          by_cases e : i = q 3
          · subst e
            simp (disch := omega) only [wr_same, wr_i, upn_same, upn_ne, and_self]
          · simp (disch := omega) only [wr_i, upn_ne]
            exact h6.2 i (by omega)
        · show q 3 + 1 ≤ 15
          omega
        · have hi : i < q 3 + 1 := hi
          by_cases e : i = q 3
          · subst e
            simp (disch := omega) only [upn_same, upn_ne]
            exact ⟨hm, hv⟩
          · simp (disch := omega) only [upn_ne]
            exact v5.2 i (by omega)
        · obtain ⟨m0, m1, m2, m3, m4, m5, m6, m7⟩ := id hM0
          refine ⟨wr (wr (wr S0 44 0 (q 3) (nI m)) 45 0 (q 3) (nI v)) 35 0 14 (nI (q 3 + 1)), ?_, ⟨m0, m1, m2, m3, m4, ⟨wr_same _ _ _ _ _, fun i hi => ?_⟩, m6, m7⟩, fun a ha => by rw [wr_kind (by omega), wr_kind (by omega), wr_kind (by omega)]⟩
          · have c6 : ¬ nI (q 3) = (15 : Int32) := fun z => by have := nI_inj (b := 15) (by omega) (by decide) z; omega
            unfold fX11_write
            rw [cal_of (m_man1 m0.2.2.1 hMn ha), if_neg n10, w1, cal_s, if_pos hc, if_neg n10, m5.1, if_neg c6]
            simp (disch := omega) only [bs, m5.1, ck_nI, nI_clamp, wr_same, wr_i, nI_1]
          · have hi : i < q 3 + 1 := hi
            by_cases e : i = q 3
            · subst e
              simp (disch := omega) only [wr_same, wr_i, upn_same, upn_ne, and_self]
            · simp (disch := omega) only [wr_i, upn_ne]
              exact m5.2 i (by omega)
      · have h240 : q 3 = 15 := by have := hV.2.2.2.2.2.1.1; omega
        refine same_no (r := -1000000004) hC hM hV ?_ (fun S0 h0 => ?_)
        · unfold fX10_write
          rw [hk, cal_of (c_man1 (hC.2.1.1 2 (by decide)) hMn ha), if_neg n10, c_isOut, cal_s, if_pos hc, if_pos rfl, hC.2.2.2.2.2.2.1.1, h240, if_neg (by decide)]
        · unfold fX11_write
          rw [cal_of (m_man1 h0.1.2.2.1 hMn ha), if_neg n10, w1, cal_s, if_pos hc, if_neg n10, h0.2.2.2.2.2.1.1, h240, if_pos (by decide)]
    · refine same_no (r := -1000000002) hC hM hV ?_ (fun S0 h0 => ?_)
      · unfold fX10_write
        rw [hk, cal_of (c_man1 (hC.2.1.1 2 (by decide)) hMn ha), if_neg n10, c_isOut, cal_s, if_neg hc, if_neg n10]
      · unfold fX11_write
        rw [cal_of (m_man1 h0.1.2.2.1 hMn ha), if_neg n10, w1, cal_s, if_neg hc, if_pos rfl]
  · refine same_no (r := -1000000001) hC hM hV ?_ (fun S0 h0 => ?_)
    · unfold fX10_write
      rw [hk, cal_of (c_man0 (hC.2.1.1 2 (by decide)) hMn ha), if_pos rfl]
    · unfold fX11_write
      rw [cal_of (m_man0 h0.1.2.2.1 hMn ha), if_pos rfl]
/-- the first one that is so, or n -/
theorem first_of (P : Nat → Prop) : ∀ n, ∃ k, k ≤ n ∧ (∀ j, j < k → ¬ P j) ∧ (k < n → P k)
  | 0 => ⟨0, Nat.le_refl _, fun j h => absurd h (Nat.not_lt_zero _), fun h => absurd h (Nat.not_lt_zero _)⟩
  | n + 1 => by
    obtain ⟨k, h1, h2, h3⟩ := first_of P n
    by_cases hk : k < n
    · exact ⟨k, by omega, h2, fun _ => h3 hk⟩
    · have e : k = n := by omega
      subst e
      by_cases hp : P k
      · exact ⟨k, by omega, h2, fun _ => hp⟩
      · refine ⟨k + 1, Nat.le_refl _, fun j hj => ?_, fun h => by omega⟩
        by_cases e : j = k
        · rw [e]; exact hp
        · exact h2 j (by omega)
theorem same_judge : Same fX10_judge fX11_judge := by
  refine same_ro (fun S q π ν us im d fa hC hV => ?_)
  obtain ⟨k, hk1, hk2, hk3⟩ := first_of (fun i => ν (d 4 i + 1) 1 ≠ d 5 i) (q 3)
  have h6 := hC.2.2.2.2.2.2.1
  have b3 := hV.2.2.2.2.2.1
  have hMn : π 0 2 ≤ 6 := hV.1.2.2.1
  have hW := hV.2.1.1.2.2.2
  refine ⟨if k < q 3 then nI k else -1, ?_, fun S0 hM => ⟨S0, ?_, Fr.rf⟩⟩
  · have e : fX0_firstWrong S = some (if k < q 3 then nI k else -1, S) := by
      unfold fX0_firstWrong
      rw [jn_e]
      refine lopI (i0 := 0) (N := k) (fun i _ hi ag => ?_) (fun ag => ?_) (Nat.zero_le _) (by rw [FU_eq]; omega) rfl
      · have g := h6.2 i (by omega)
        have b := b3.2 i (by omega)
        have w := (hC.2.2.1.2.2 (d 4 i) b.1).2.2.1
        have hn := hk2 i hi
        unfold bX0_firstWrong_2
        rw [h6.1, if_neg (nI_ge (by omega) (by omega)), ck_nI (show i < 15 by omega) (by omega), nI_clamp (by omega), g.1, ck_nI (show d 4 i < 6 by omega) (by omega), ck_nI (show i < 15 by omega) (by omega), nI_clamp (by omega), w, g.2, if_pos (congrArg nI (Classical.not_not.mp hn)), nI_1]
      · unfold bX0_firstWrong_2
        by_cases hlt : k < q 3
        · have g := h6.2 k hlt
          have b := b3.2 k hlt
          have w := (hC.2.2.1.2.2 (d 4 k) b.1).2.2.1
          have ww := (hW (d 4 k) b.1).2.1
          rw [h6.1, if_neg (nI_ge (by omega) (by omega)), ck_nI (show k < 15 by omega) (by omega), nI_clamp (by omega), g.1, ck_nI (show d 4 k < 6 by omega) (by omega), ck_nI (show k < 15 by omega) (by omega), nI_clamp (by omega), w, g.2, if_neg (fun z => hk3 hlt (nI_inj (by omega) (by omega) z)), if_pos hlt]
        · rw [h6.1, if_pos (nI_le (by omega) (by omega)), if_neg hlt]
    unfold fX10_judge
    rw [cal_of e]
  · have m5 := hM.2.2.2.2.2.1
    have mn := hM.2.1.2.2.2.2
    unfold fX11_judge
    rw [jn_e]
    refine lopI (i0 := 0) (N := k) (fun i _ hi ag => ?_) (fun ag => ?_) (Nat.zero_le _) (by rw [FU_eq]; omega) rfl
    · have g := m5.2 i (by omega)
      have b := b3.2 i (by omega)
      have w := (mn (d 4 i) b.1).1
      have hn := hk2 i hi
      unfold bX11_judge_2
      rw [m5.1, if_neg (nI_ge (by omega) (by omega)), ck_nI (show i < 15 by omega) (by omega), nI_clamp (by omega), g.1, show (64 : Int32) = nI 64 from rfl, nI_add, ck_nI (show 64 + d 4 i < 70 by omega) (by omega), ck_nI (show i < 15 by omega) (by omega), nI_clamp (by omega), w, g.2, if_pos (congrArg nI (Classical.not_not.mp hn)), nI_1]
    · unfold bX11_judge_2
      by_cases hlt : k < q 3
      · have g := m5.2 k hlt
        have b := b3.2 k hlt
        have w := (mn (d 4 k) b.1).1
        have ww := (hW (d 4 k) b.1).2.1
        rw [m5.1, if_neg (nI_ge (by omega) (by omega)), ck_nI (show k < 15 by omega) (by omega), nI_clamp (by omega), g.1, show (64 : Int32) = nI 64 from rfl, nI_add, ck_nI (show 64 + d 4 k < 70 by omega) (by omega), ck_nI (show k < 15 by omega) (by omega), nI_clamp (by omega), w, g.2, if_neg (fun z => hk3 hlt (nI_inj (by omega) (by omega) z)), if_pos hlt]
      · rw [m5.1, if_pos (nI_le (by omega) (by omega)), if_neg hlt]
theorem same_skin (a b c : Int32) : Same (fX10_skin a b c) (fX11_skin a b c) := by
  refine same_ro (fun S q π ν us im d fa hC hV => ?_)
  have hk := hC.k
  have hMn : π 0 2 ≤ 6 := hV.1.2.2.1
  have w1 : ∀ S0, fX11_within c.toInt64 (0 : Int64) (1 : Int64) S0 = some (if (0 : Int32) ≤ c ∧ c ≤ 1 then 1 else 0, S0) := fun S0 => m_within c 0 1 S0
  by_cases ha : isB a (π 0 2)
  · by_cases hb : (0 : Int32) ≤ b ∧ b ≤ 4
    · by_cases hc : (0 : Int32) ≤ c ∧ c ≤ 1
      · obtain ⟨m, hm, rfl⟩ := id ha
        obtain ⟨p, -, hp, rfl⟩ := nat_of (lo := 0) (hi := 4) (by decide) (by decide) hb
        have g := (hC.2.2.1.2.2 m hm).2.2.2 p (by omega)
        refine ⟨if c = 0 then nI (ν (m + 1) (2 + p)) else nI (ν (m + 1) (7 + p)), ?_, fun S0 hM => ⟨S0, ?_, Fr.rf⟩⟩
        · unfold fX10_skin
          rw [hk, cal_of (c_man1 (hC.2.1.1 2 (by decide)) hMn ha), if_neg n10, c_isOut, cal_s, if_pos hb, if_pos rfl, c_isOut, cal_s, if_pos hc, if_pos rfl, ck_nI (show m < 6 by omega) (by omega), ck_nI (show p < 5 by omega) (by omega), nI_clamp (show m < 2 ^ 31 by omega), nI_clamp (show p < 2 ^ 31 by omega), g.1, g.2]
          by_cases h0 : c = 0
          · rw [if_pos h0, if_pos h0]
          · rw [if_neg h0, if_neg h0, ck_nI (show p < 5 by omega) (by omega)]
        · have n := (hM.2.1.2.2.2.2 m hm).2 p (by omega)
          unfold fX11_skin
          rw [cal_of (m_man1 hM.1.2.2.1 hMn ha), if_neg n10, m_place, cal_s, if_pos hb, if_neg n10, w1, cal_s, if_pos hc, if_neg n10, jn_e]
          dsimp only
          by_cases h0 : c = 0
          · rw [if_pos h0, if_pos h0, show (4 : Int32) = nI 4 from rfl, show (5 : Int32) = nI 5 from rfl, pk_mul, nI_add, nI_add, ck_nI (show 4 + 5 * m + p < 70 by omega) (by omega), nI_clamp (by omega), n.1]
          · rw [if_neg h0, if_neg h0, show (34 : Int32) = nI 34 from rfl, show (5 : Int32) = nI 5 from rfl, pk_mul, nI_add, nI_add, ck_nI (show 34 + 5 * m + p < 70 by omega) (by omega), nI_clamp (by omega), n.2]
      · refine ⟨-1000000002, ?_, fun S0 hM => ⟨S0, ?_, Fr.rf⟩⟩
        · unfold fX10_skin
          rw [hk, cal_of (c_man1 (hC.2.1.1 2 (by decide)) hMn ha), if_neg n10, c_isOut, cal_s, if_pos hb, if_pos rfl, c_isOut, cal_s, if_neg hc, if_neg n10]
        · unfold fX11_skin
          rw [cal_of (m_man1 hM.1.2.2.1 hMn ha), if_neg n10, m_place, cal_s, if_pos hb, if_neg n10, w1, cal_s, if_neg hc, if_pos rfl]
    · refine ⟨-1000000002, ?_, fun S0 hM => ⟨S0, ?_, Fr.rf⟩⟩
      · unfold fX10_skin
        rw [hk, cal_of (c_man1 (hC.2.1.1 2 (by decide)) hMn ha), if_neg n10, c_isOut, cal_s, if_neg hb, if_neg n10]
      · unfold fX11_skin
        rw [cal_of (m_man1 hM.1.2.2.1 hMn ha), if_neg n10, m_place, cal_s, if_neg hb, if_pos rfl]
  · refine ⟨-1000000001, ?_, fun S0 hM => ⟨S0, ?_, Fr.rf⟩⟩
    · unfold fX10_skin
      rw [hk, cal_of (c_man0 (hC.2.1.1 2 (by decide)) hMn ha), if_pos rfl]
    · unfold fX11_skin
      rw [cal_of (m_man0 hM.1.2.2.1 hMn ha), if_pos rfl]
theorem same_man (a b : Int32) : Same (fX10_man a b) (fX11_man a b) := by
  refine same_ro (fun S q π ν us im d fa hC hV => ?_)
  have hk := hC.k
  have hMn : π 0 2 ≤ 6 := hV.1.2.2.1
  have hY := hV.1.2.2.2.2.1
  by_cases ha : isB a (π 0 2)
  · obtain ⟨m, hm, rfl⟩ := id ha
    obtain ⟨g0, g1, g2, g3⟩ := hC.2.2.1.2.2 m hm
    have hS := hV.2.1.1.vs hm
    refine ⟨if b = 0 then nI (π 1 m) else if b = 1 then nI (ν (m + 1) 0) else if b = 2 then nI (ν (m + 1) 1) else if b = 3 then nI (msk (fun s => decide (pn π (fun p => ν (m + 1) (2 + p)) (fun p => ν (m + 1) (7 + p)) s ≤ 5)) (π 0 3)) else if b = 4 then nI (msk (fun s => decide (1 ≤ pn π (fun p => ν (m + 1) (2 + p)) (fun p => ν (m + 1) (7 + p)) s)) (π 0 3)) else -1000000002, ?_, fun S0 hM => ?_⟩
    · unfold fX10_man
      rw [hk, cal_of (c_man1 (hC.2.1.1 2 (by decide)) hMn ha), if_neg n10, ck_nI (show m < 6 by omega) (by omega), nI_clamp (by omega), g0, g1, g2, hk, cal_of (c_setBorne hC.2.1.cy hY (hC.2.2.1.sk hm) hS), cal_of (c_setFelt hC.2.1.cy hY (hC.2.2.1.sk hm) hS)]
      repeat' split
      all_goals rfl
    · obtain ⟨S2, e, f1, f2⟩ := m_takesSkin (S := S0) (show m < 6 by omega)
      have mn := hM.2.1
      have hK : SkM S2 (fun p => ν (m + 1) (2 + p)) (fun p => ν (m + 1) (7 + p)) := fun p hp => by
        rw [(f2 p hp).1, (f2 p hp).2]; exact (mn.2.2.2.2 m hm).2 p hp
      have hY2 : MY S2 π := by unfold MY; rw [f1 35 0 (by omega), f1 38 0 (by omega), f1 39 0 (by omega)]; exact hM.1.my
      have hmk := msk_le (fun m => decide (ν (m + 1) 0 = 1)) (show π 0 2 ≤ 8 by omega)
      have hin : (nI (msk (fun m => decide (ν (m + 1) 0 = 1)) (π 0 2)) >>> (nI m &&& (31 : Int32))) &&& (1 : Int32) = nI (ν (m + 1) 0) := by
        rw [bit_sh _ hmk m (by omega), msk_bit]
        have w := (hV.2.1.1.2.2.2 m hm).1
        rcases (show ν (m + 1) 0 = 0 ∨ ν (m + 1) 0 = 1 by omega) with z | z
        · rw [z]; simp; rfl
        · rw [z]; simp [hm]; rfl
      refine ⟨S2, ?_, f1.mono (fun a o h => by omega)⟩
      unfold fX11_man
      rw [cal_of (m_man1 hM.1.2.2.1 hMn ha), if_neg n10, cal_of e, ck_nI (show m < 6 by omega) (by omega), f1 36 0 (by omega), nI_clamp (show m < 2 ^ 31 by omega), (hM.1.2.2.2.2.1 m hm).1, show (2 : Int32) = nI 2 from rfl, ck_nI (show 2 < 70 by decide) (by decide), nI_clamp (show 2 < 2 ^ 31 by decide), f1 40 0 (by omega), mn.2.2.1, hin, show (64 : Int32) = nI 64 from rfl, nI_add, ck_nI (show 64 + m < 70 by omega) (by omega), nI_clamp (show 64 + m < 2 ^ 31 by omega), (mn.2.2.2.2 m hm).1, cal_of (m_borne hY2 hY hK hS), cal_of (m_felt hY2 hY hK hS)]
      repeat' split
      all_goals rfl
  · refine ⟨-1000000001, ?_, fun S0 hM => ⟨S0, ?_, Fr.rf⟩⟩
    · unfold fX10_man
      rw [hk, cal_of (c_man0 (hC.2.1.1 2 (by decide)) hMn ha), if_pos rfl]
    · unfold fX11_man
      rw [cal_of (m_man0 hM.1.2.2.1 hMn ha), if_pos rfl]
def odd_ (b : Int32) : Nat → Int64
  | 0 => 1000000000
  | n + 1 => (odd_ b n * Int32.toInt64 b) / 100
theorem bl_e (v : Int64) (f : Int64 → Op) : bl v f = f v := congrArg id (Eq.refl (f v))
theorem same_quiet (a b : Int32) : Same (fX10_quiet a b) (fX11_quiet a b) := by
  refine same_ro (fun S q π ν us im d fa hC hV => ?_)
  have w1 : ∀ S0, fX11_within a.toInt64 (0 : Int64) (60 : Int64) S0 = some (if (0 : Int32) ≤ a ∧ a ≤ 60 then 1 else 0, S0) := fun S0 => m_within a 0 60 S0
  have w2 : ∀ S0, fX11_within b.toInt64 (0 : Int64) (100 : Int64) S0 = some (if (0 : Int32) ≤ b ∧ b ≤ 100 then 1 else 0, S0) := fun S0 => m_within b 0 100 S0
  by_cases ha : (0 : Int32) ≤ a ∧ a ≤ 60
  · by_cases hb : (0 : Int32) ≤ b ∧ b ≤ 100
    · obtain ⟨n, -, hn, rfl⟩ := nat_of (lo := 0) (hi := 60) (by decide) (by decide) ha
      refine ⟨(odd_ b n).toInt32, ?_, fun S0 hM => ⟨S0, ?_, Fr.rf⟩⟩
      · unfold fX10_quiet
        rw [c_isOut, cal_s, if_pos ha, if_pos rfl, c_isOut, cal_s, if_pos hb, if_pos rfl, jn_e]
        refine lop_til (ev := fun (f : Int32 → Int64 → Op) i => f (nI i) (odd_ b i)) (i0 := 0) (N := n) (fun i _ hi ag => ?_) (fun ag => ?_) (Nat.zero_le _) (by rw [FU_eq]; omega)
        · show bX10_quiet_30 _ _ _ _ _ _ = _
          unfold bX10_quiet_30
          rw [if_neg (nI_ge hi (by omega)), bl_e, nI_1]
          rfl
        · show bX10_quiet_30 _ _ _ _ _ _ = _
          unfold bX10_quiet_30
          rw [if_pos (nI_le (Nat.le_refl _) (by omega))]
      · unfold fX11_quiet
        rw [w1, cal_s, if_pos ha, if_neg n10, w2, cal_s, if_pos hb, if_neg n10, jn_e]
        refine lop_til (ev := fun (f : Int32 → Int64 → Op) i => f (nI i) (odd_ b i)) (i0 := 0) (N := n) (fun i _ hi ag => ?_) (fun ag => ?_) (Nat.zero_le _) (by rw [FU_eq]; omega)
        · show bX11_quiet_34 _ _ _ _ _ _ = _
          unfold bX11_quiet_34
          rw [if_neg (nI_ge hi (by omega)), bl_e, nI_1]
          rfl
        · show bX11_quiet_34 _ _ _ _ _ _ = _
          unfold bX11_quiet_34
          rw [if_pos (nI_le (Nat.le_refl _) (by omega))]
    · refine ⟨-1000000002, ?_, fun S0 hM => ⟨S0, ?_, Fr.rf⟩⟩
      · unfold fX10_quiet
        rw [c_isOut, cal_s, if_pos ha, if_pos rfl, c_isOut, cal_s, if_neg hb, if_neg n10]
      · unfold fX11_quiet
        rw [w1, cal_s, if_pos ha, if_neg n10, w2, cal_s, if_neg hb, if_pos rfl]
  · refine ⟨-1000000002, ?_, fun S0 hM => ⟨S0, ?_, Fr.rf⟩⟩
    · unfold fX10_quiet
      rw [c_isOut, cal_s, if_neg ha, if_neg n10]
    · unfold fX11_quiet
      rw [w1, cal_s, if_neg ha, if_pos rfl]
def cmp_ (a b : Int32) : Int32 := if b ≤ a then (if a = b then 0 else 1) else -1
def ahd (f g : Nat → Int32) : Nat → Int32
  | 0 => 0
  | n + 1 => ahd f g n + cmp_ (f n) (g n)
theorem p_cmp (a b : Int32) (S : St) : fJ6_compare_7cf53 a b S = some (cmp_ a b, S) := by
  unfold fJ6_compare_7cf53 cmp_
  repeat' split
  all_goals rfl
theorem same_over (a b : Int32) : Same (fX10_over a b) (fX11_over a b) := by
  refine same_ro (fun S q π ν us im d fa hC hV => ?_)
  have hk := hC.k
  have hMn : π 0 2 ≤ 6 := hV.1.2.2.1
  by_cases ha : isB a (π 0 2)
  · by_cases hb : isB b (π 0 2)
    · by_cases hab : a = b
      · refine ⟨-1000000001, ?_, fun S0 hM => ⟨S0, ?_, Fr.rf⟩⟩
        · unfold fX10_over
          rw [hk, cal_of (c_man1 (hC.2.1.1 2 (by decide)) hMn ha), if_neg n10, hk, cal_of (c_man1 (hC.2.1.1 2 (by decide)) hMn hb), if_neg n10, if_pos hab]
        · unfold fX11_over
          rw [cal_of (m_man1 hM.1.2.2.1 hMn ha), if_neg n10, cal_of (m_man1 hM.1.2.2.1 hMn hb), if_neg n10, if_pos hab]
      · obtain ⟨m, hm, rfl⟩ := id ha
        obtain ⟨n, hn, rfl⟩ := id hb
        have g := fun p hp => ((hC.2.2.1.2.2 m hm).2.2.2 p hp).2
        have g2 := fun p hp => ((hC.2.2.1.2.2 n hn).2.2.2 p hp).2
        refine ⟨if ahd (fun p => nI (ν (m + 1) (7 + p))) (fun p => nI (ν (n + 1) (7 + p))) 5 ≤ 0 then 0 else 1, ?_, fun S0 hM => ⟨S0, ?_, Fr.rf⟩⟩
        · have e : fX3_isOver m n S = some (if ahd (fun p => nI (ν (m + 1) (7 + p))) (fun p => nI (ν (n + 1) (7 + p))) 5 ≤ 0 then 0 else 1, S) := by
            unfold fX3_isOver
            rw [jn_e]
            refine lopAS (i0 := 0) (N := 5) (ahd (fun p => nI (ν (m + 1) (7 + p))) (fun p => nI (ν (n + 1) (7 + p)))) (fun _ => S) (fun i _ hi ag => ?_) (fun ag => ?_) (by decide) (by decide) rfl rfl rfl
            · unfold bX3_isOver_4
              rw [if_neg (l5 hi), ck_nI hi (by omega), ck_nI hi (by omega), nI_clamp (by omega), g i hi, g2 i hi, p_cmp, cal_s, bi_e, nI_1]
              rfl
            · unfold bX3_isOver_4
              rw [if_pos (show ((5 : Int32) ≤ nI 5) from by decide)]
              dsimp only
              split <;> rfl
          unfold fX10_over
          rw [hk, cal_of (c_man1 (hC.2.1.1 2 (by decide)) hMn ha), if_neg n10, hk, cal_of (c_man1 (hC.2.1.1 2 (by decide)) hMn hb), if_neg n10, if_neg hab, ck_nI (show m < 6 by omega) (by omega), ck_nI (show n < 6 by omega) (by omega), nI_clamp (show m < 2 ^ 31 by omega), nI_clamp (show n < 2 ^ 31 by omega), cal_of e]
          by_cases z : ahd (fun p => nI (ν (m + 1) (7 + p))) (fun p => nI (ν (n + 1) (7 + p))) 5 ≤ 0
          · rw [if_pos z, if_pos rfl]
          · rw [if_neg z, if_neg n10]
        · have n1 := fun p hp => ((hM.2.1.2.2.2.2 m hm).2 p hp).2
          have n2 := fun p hp => ((hM.2.1.2.2.2.2 n hn).2 p hp).2
          unfold fX11_over
          rw [cal_of (m_man1 hM.1.2.2.1 hMn ha), if_neg n10, cal_of (m_man1 hM.1.2.2.1 hMn hb), if_neg n10, if_neg hab, jn_e]
          refine lopA (i0 := 0) (N := 5) (ahd (fun p => nI (ν (m + 1) (7 + p))) (fun p => nI (ν (n + 1) (7 + p)))) (fun i _ hi ag => ?_) (fun ag => ?_) (by decide) (by decide) rfl rfl
          · unfold bX11_over_29
            rw [if_neg (l5 hi), show (34 : Int32) = nI 34 from rfl, show (5 : Int32) = nI 5 from rfl, pk_mul, pk_mul, nI_add, nI_add, nI_add, nI_add, ck_nI (show 34 + 5 * m + i < 70 by omega) (by omega), bi_e, ck_nI (show 34 + 5 * n + i < 70 by omega) (by omega), bi_e, nI_clamp (show 34 + 5 * m + i < 2 ^ 31 by omega), nI_clamp (show 34 + 5 * n + i < 2 ^ 31 by omega), n1 i hi, n2 i hi, nI_1]
            show _ = ag _ (ahd _ _ i + cmp_ (nI (ν (m + 1) (7 + i))) (nI (ν (n + 1) (7 + i))))
            generalize nI (ν (m + 1) (7 + i)) = x
            generalize nI (ν (n + 1) (7 + i)) = y
            unfold cmp_
            by_cases h1 : x ≤ y
            · rw [if_pos h1]
              by_cases h2 : y ≤ x
              · rw [if_pos h2, if_pos h2, if_pos (Int32.le_antisymm h1 h2), bi_e]
              · rw [if_neg h2, if_neg h2, bi_e]
            · have h2 : y ≤ x := (Int32.le_total x y).resolve_left h1
              rw [if_neg h1, if_pos h2, if_neg (fun z => h1 (by rw [z]; exact Int32.le_refl _)), bi_e]
          · unfold bX11_over_29
            rw [if_pos (show ((5 : Int32) ≤ nI 5) from by decide)]
            dsimp only
            split <;> rfl
    · refine ⟨-1000000001, ?_, fun S0 hM => ⟨S0, ?_, Fr.rf⟩⟩
      · unfold fX10_over
        rw [hk, cal_of (c_man1 (hC.2.1.1 2 (by decide)) hMn ha), if_neg n10, hk, cal_of (c_man0 (hC.2.1.1 2 (by decide)) hMn hb), if_pos rfl]
      · unfold fX11_over
        rw [cal_of (m_man1 hM.1.2.2.1 hMn ha), if_neg n10, cal_of (m_man0 hM.1.2.2.1 hMn hb), if_pos rfl]
  · refine ⟨-1000000001, ?_, fun S0 hM => ⟨S0, ?_, Fr.rf⟩⟩
    · unfold fX10_over
      rw [hk, cal_of (c_man0 (hC.2.1.1 2 (by decide)) hMn ha), if_pos rfl]
    · unfold fX11_over
      rw [cal_of (m_man0 hM.1.2.2.1 hMn ha), if_pos rfl]
