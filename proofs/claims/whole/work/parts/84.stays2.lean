theorem ntl_sign (P : Nat → Bool) : ∀ i, i ≤ 61 → (ntn P i = 0 → ntl P i = -1) ∧ (ntn P i ≠ 0 → 0 ≤ ntl P i)
  | 0, _ => ⟨fun _ => rfl, fun h => absurd rfl h⟩
  | i + 1, h => by
    obtain ⟨h1, h2⟩ := ntl_sign P i (by omega)
    cases hp : P i
    · rw [ntn_f hp, ntl_f hp]; exact ⟨h1, h2⟩
    · rw [ntn_t hp, ntl_t hp]
      refine ⟨fun z => by omega, fun _ => ?_⟩
      by_cases h0 : ntn P i = 0
      · rw [if_pos h0]; exact nI_pos' (by omega)
      · rw [if_neg h0]; exact h2 h0
theorem EC.frt {S S1 : St} {H : Nat} {d : Nat → Nat → Nat} (h : EC S H d) (f : Fr trC S S1) : EC S1 H d := by
  unfold EC; rw [f 20 0 (by unfold trC; omega), f 21 0 (by unfold trC; omega), f 22 0 (by unfold trC; omega), f 23 0 (by unfold trC; omega)]; exact h
theorem same_stays (a b : Int32) : Same (fX10_stays a b) (fX11_stays a b) := by
  refine same_of (fun S q π ν us im d fa hC _ hV => ?_)
  have hk := hC.k
  have hMn : π 0 2 ≤ 6 := hV.1.2.2.1
  have w1 : ∀ S0, fX11_within b.toInt64 (0 : Int64) (2 : Int64) S0 = some (if (0 : Int32) ≤ b ∧ b ≤ 2 then 1 else 0, S0) := fun S0 => m_within b 0 2 S0
  by_cases ha : isB a (π 0 2)
  · by_cases hb : (0 : Int32) ≤ b ∧ b ≤ 2
    · obtain ⟨m, hm, rfl⟩ := id ha
      have hec : EC S (q 2) d := hC.2.2.2.2.2.1
      have hve : VE π (q 2) d := hV.2.2.2.2.1
      have hS := hV.1.vf hm
      have hkd := (hV.1.2.2.2.1 m hm).1
      have hbk := hV.1.2.1
      obtain ⟨S1, e1, f1, t1, z3, z4, z5⟩ := c_startFirst hC.2.1 hV.1 hm
      have fin := lopSK (i0 := 0) (N := 61) (z := fun _ _ => none) (b := bX10_stays_40 (nI m)) (x := 0) (S := S1)
        (fun i S2 => Fr trC S S2 ∧ TN S2 (fun p => π (4 + m) p) (fun _ => 0) (π 1 m) (π 0 1) 0 (pf π d m (q 2)) i) ?hs ?he (by decide) (by decide) rfl ⟨f1, t1, z3, z4, z5⟩
      case hs =>
        intro i S2 _ hi ⟨g1, g2⟩
        have hk2 : pid (S2 0 0 1) = q 7 := by rw [g1 0 0 (by unfold trC; omega)]; exact hk
        have ca := c_agree (hec.frt g1) hve (hC.2.1.cy.frt g1) hV.1 g2.1.2.1 (tf_vs hV.1 hm i) hm
        by_cases h1 : pf π d m (q 2) i = true
        · obtain ⟨S3, S4, e3, e4, f4, t4⟩ := g2.noted hS hkd hbk (by decide) (by omega) h1
          refine ⟨S4, ⟨g1.tr f4, t4⟩, fun kk ag => ?_⟩
          unfold bX10_stays_40
          rw [if_neg (l60 hi), hk2, cal_of ca, jn_e]
          try dsimp only
          rw [show bI (agr π (fun p => π (4 + m) p) (tr (π 1 m) (π 0 1) 0 (fun _ => 0) i) d m (q 2)) = 1 from congrArg bI h1, if_neg n10, cal_of e3, cal_of e4, nI_1]
        · have h1f : pf π d m (q 2) i = false := by simpa using h1
          obtain ⟨S4, e4, f4, t4⟩ := g2.next hS hkd hbk (by decide) (by omega) h1f
          refine ⟨S4, ⟨g1.tr f4, t4⟩, fun kk ag => ?_⟩
          unfold bX10_stays_40
          rw [if_neg (l60 hi), hk2, cal_of ca, jn_e]
          try dsimp only
          rw [show bI (agr π (fun p => π (4 + m) p) (tr (π 1 m) (π 0 1) 0 (fun _ => 0) i) d m (q 2)) = 0 from congrArg bI h1f, if_pos rfl, cal_of e4, nI_1]
      case he =>
        intro S2 _ kk ag
        unfold bX10_stays_40
        rw [if_pos (show (60 : Int32) < nI 61 by decide)]
      obtain ⟨S2, ⟨g1, g2⟩, e2⟩ := fin
      refine ⟨if b = 0 then nI (ntn (pf π d m (q 2)) 61) else if b = 1 then ntl (pf π d m (q 2)) 61 else lst (pf π d m (q 2)) 61, S2, ?_, g1.mono (fun a o h => by unfold trC at h; unfold scC; omega), fun a ha => kind_of g1 (fun o => by unfold trC; omega), fun S0 hM => ?_⟩
      · unfold fX10_stays
        rw [hk, cal_of (c_man1 (hC.2.1.1 2 (by decide)) hMn ha), if_neg n10, c_isOut, cal_s, if_pos hb, if_pos rfl, hk, cal_of e1, jn_e, e2, cal_of (c_noted g2)]
      · obtain ⟨T2, x2, y2, z2⟩ := m_lays (d := d) (H := q 2) hM.1 hM.2.2.2.2.1 hve hV.1 hm
        refine ⟨T2, ?_, y2.mono (fun a o h => by unfold scM; omega), fun a ha => kind_of y2 (fun o => by omega)⟩
        unfold fX11_stays
        rw [cal_of (m_man1 hM.1.2.2.1 hMn ha), if_neg n10, w1, cal_s, if_pos hb, if_neg n10, cal_of x2, jn_e]
        refine lopAA (i0 := 0) (N := 61) (lst (pf π d m (q 2))) (ntl (pf π d m (q 2))) (fun i _ hi ag => ?_) (fun ag => ?_) (by decide) (by decide) rfl rfl rfl
        · have z := (z2 i hi).1
          obtain ⟨s1, s2⟩ := ntl_sign (pf π d m (q 2)) i (by omega)
          unfold bX11_stays_41
          rw [if_neg (l60 hi), ck_nI hi (by omega), jn_e]
          try dsimp only
          rw [jn_e]
          try dsimp only
          rw [nI_clamp (by omega), z, ck_nI hi (by omega), ck_nI hi (by omega), nI_1]
          cases hp : pf π d m (q 2) i
          · rw [bI_f, if_pos rfl, if_pos rfl, lst_f hp, ntl_f hp]
          · rw [bI_t, if_neg n10, if_neg n10, if_neg n10, lst_t hp, ntl_t hp]
            by_cases h0 : ntn (pf π d m (q 2)) i = 0
            · rw [if_pos h0, s1 h0, if_neg n1f]
            · rw [if_neg h0, if_pos (s2 h0)]
        · unfold bX11_stays_41
          rw [if_pos (show (60 : Int32) < nI 61 by decide)]
          try dsimp only
          repeat' split
          all_goals rfl
    · refine ⟨-1000000002, S, ?_, Fr.rf, fun _ _ => rfl, fun S0 hM => ⟨S0, ?_, Fr.rf, fun _ _ => rfl⟩⟩
      · unfold fX10_stays
        rw [hk, cal_of (c_man1 (hC.2.1.1 2 (by decide)) hMn ha), if_neg n10, c_isOut, cal_s, if_neg hb, if_neg n10]
      · unfold fX11_stays
        rw [cal_of (m_man1 hM.1.2.2.1 hMn ha), if_neg n10, w1, cal_s, if_neg hb, if_pos rfl]
  · refine ⟨-1000000001, S, ?_, Fr.rf, fun _ _ => rfl, fun S0 hM => ⟨S0, ?_, Fr.rf, fun _ _ => rfl⟩⟩
    · unfold fX10_stays
      rw [hk, cal_of (c_man0 (hC.2.1.1 2 (by decide)) hMn ha), if_pos rfl]
    · unfold fX11_stays
      rw [cal_of (m_man0 hM.1.2.2.1 hMn ha), if_pos rfl]
