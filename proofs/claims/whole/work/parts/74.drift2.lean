theorem stir_0 {π ν : Nat → Nat → Nat} {k r : Nat} (h0 : π 0 2 = 0) : ClS π ν ν k r r := by
  intro S cp cn h
  refine ⟨S, ?_, Fr.rf, cn, h⟩
  unfold fX7_stir
  rw [cn.1, cp.1 2 (by decide), h0, if_pos (show nI 0 = (0 : Int32) from rfl)]
def ClD (n : Nat) (π ν ν2 : Nat → Nat → Nat) (k r r2 j : Nat) : Prop := ∀ (fu : Nat) S kk, j < fu → CP S k π → CN S k (π 0 2) (π 1) ν → S 19 0 0 = nI r → ∃ S2, lop (fun _ _ => none) (bX10_drift_25 (nI n) kk) fu (nI (n - j)) S = kk S2 ∧ Fr frC S S2 ∧ CN S2 k (π 0 2) (π 1) ν2 ∧ S2 19 0 0 = nI r2
def MoD (n : Nat) (π ν ν2 : Nat → Nat → Nat) (r r2 j : Nat) : Prop := ∀ (fu : Nat) S kk, j < fu → MP S π → MN (S 40 0) (π 0 2) ν → S 35 0 9 = nI r → ∃ S2, lop (fun _ _ => none) (bX11_drift_18 (nI n) kk) fu (nI (n - j)) S = kk S2 ∧ Fr frM S S2 ∧ (∀ i, i ≠ 9 → S2 35 0 i = S 35 0 i) ∧ MN (S2 40 0) (π 0 2) ν2 ∧ S2 35 0 9 = nI r2
theorem drift_run {n k : Nat} {π : Nat → Nat → Nat} (hV : VP π) (hn : n ≤ 60) : ∀ j, ∀ ν r, j ≤ n → VQ π ν → r < 2 ^ 31 → ν 0 0 + j ≤ 9060 → ∃ ν2 r2, VQ π ν2 ∧ r2 < 2 ^ 31 ∧ ν2 0 0 = ν 0 0 + j ∧ ClD n π ν ν2 k r r2 j ∧ MoD n π ν ν2 r r2 j
  | 0, ν, r, _, hQ, hr, _ => by
    refine ⟨ν, r, hQ, hr, rfl, fun fu S kk hf cp cn h => ⟨S, ?_, Fr.rf, cn, h⟩, fun fu S kk hf mp mn h => ⟨S, ?_, Fr.rf, fun _ _ => rfl, mn, h⟩⟩
    · obtain ⟨g, rfl⟩ : ∃ g, fu = g + 1 := ⟨fu - 1, by omega⟩
      show bX10_drift_25 (nI n) kk _ (nI n) S = _
      unfold bX10_drift_25
      rw [if_pos (nI_le (Nat.le_refl _) (by omega))]
    · obtain ⟨g, rfl⟩ : ∃ g, fu = g + 1 := ⟨fu - 1, by omega⟩
      show bX11_drift_18 (nI n) kk _ (nI n) S = _
      unfold bX11_drift_18
      rw [if_pos (nI_le (Nat.le_refl _) (by omega))]
  | j + 1, ν, r, hj, hQ, hr, hb => by
    have hM := hV.2.2.1
    have st : ∃ ν2 r2, VQ π ν2 ∧ r2 < 2 ^ 31 ∧ ν2 0 0 = ν 0 0 ∧ ClS π ν ν2 k r r2 ∧ (0 < π 0 2 → MoS π ν ν2 r r2) ∧ (π 0 2 = 0 → ν2 = ν ∧ r2 = r) := by
      by_cases h0 : π 0 2 = 0
      · exact ⟨ν, r, hQ, hr, rfl, stir_0 h0, fun h => by omega, fun _ => ⟨rfl, rfl⟩⟩
      · obtain ⟨ν2, r2, a1, a2, a3, a4, a5⟩ := stir_step (k := k) hV hQ hr (by omega)
        exact ⟨ν2, r2, a1, a2, a3, a4, fun _ => a5, fun h => absurd h h0⟩
    obtain ⟨ν1, r1, q1, hr1, z1, c1, m1, m0⟩ := st
    have q2 : VQ π (pas (π 1) ν1) := ⟨pas_vn q1.1 (by omega), Nat.le_trans (Nat.le_of_eq (cin_cong _ (fun m _ => pas_lo (by decide)))) q1.2⟩
    obtain ⟨ν2, r2, q3, hr2, z2, c2, m2⟩ := drift_run hV hn j (pas (π 1) ν1) r1 (by omega) q2 hr1 (by rw [pas_0]; omega)
    refine ⟨ν2, r2, q3, hr2, by rw [z2, pas_0]; omega, fun fu S kk hf cp cn h => ?_, fun fu S kk hf mp mn h => ?_⟩
    · obtain ⟨g, rfl⟩ : ∃ g, fu = g + 1 := ⟨fu - 1, by omega⟩
      obtain ⟨S1, e1, f1, n1, h1⟩ := c1 S cp cn h
      obtain ⟨S3, e3, f3, n3⟩ := c_passMonth (cp.frc f1) n1 hV q1.1
      have f4 : Fr frC S1 S3 := f3.mono (fun a o h => by unfold frC; omega)
      obtain ⟨S4, e4, f5, n5, h5⟩ := c2 g S3 kk (by omega) ((cp.frc f1).frc f4) n3 (by rw [f3 19 0 (by omega)]; exact h1)
      refine ⟨S4, ?_, (f1.tr f4).tr f5, n5, h5⟩
      show bX10_drift_25 (nI n) kk _ (nI (n - (j + 1))) S = _
      unfold bX10_drift_25
      rw [if_neg (nI_ge (by omega) (by omega)), cal_of e1, cal_of e3, nI_1, show n - (j + 1) + 1 = n - j by omega]
      exact e4
    · obtain ⟨g, rfl⟩ : ∃ g, fu = g + 1 := ⟨fu - 1, by omega⟩
      have st2 : ∃ S1, (jn (fun (S_34 : St) => cal (fX11_passes S_34) fun _ S_35 => lop (fun _ _ => none) (bX11_drift_18 (nI n) kk) g (nI (n - (j + 1)) + (1 : Int32)) S_35) fun j34 => if (S 35 0 2) ≤ (0 : Int32) then (j34 S) else (cal (fX11_chance S) fun _ S_31 => j34 S_31)) = (cal (fX11_passes S1) fun _ S_35 => lop (fun _ _ => none) (bX11_drift_18 (nI n) kk) g (nI (n - (j + 1)) + (1 : Int32)) S_35) ∧ Fr frM S S1 ∧ (∀ i, i ≠ 9 → S1 35 0 i = S 35 0 i) ∧ MN (S1 40 0) (π 0 2) ν1 ∧ S1 35 0 9 = nI r1 := by
        rw [jn_e]
        by_cases h0 : π 0 2 = 0
        · obtain ⟨w1, w2⟩ := m0 h0
          refine ⟨S, ?_, Fr.rf, fun _ _ => rfl, by rw [w1]; exact mn, by rw [w2]; exact h⟩
          rw [mp.2.2.1, h0, if_pos (show nI 0 ≤ (0 : Int32) by decide)]
        · obtain ⟨S1, e1, f1, g1, n1, h1⟩ := m1 (by omega) S mp mn h
          refine ⟨S1, ?_, f1, g1, n1, h1⟩
          rw [mp.2.2.1, if_neg (show ¬ nI (π 0 2) ≤ (0 : Int32) from nI_nle (by omega) (by omega)), cal_of e1]
      obtain ⟨S1, e1, f1, g1, n1, h1⟩ := st2
      obtain ⟨S3, e3, f3, n3⟩ := m_passes (mp.frm f1 g1) n1 hV q1.1
      have f4 : Fr frM S1 S3 := f3.mono (fun a o h => by unfold frM; omega)
      have g4 : ∀ i, i ≠ 9 → S3 35 0 i = S 35 0 i := fun i hi => by rw [f3 35 0 (by omega)]; exact g1 i hi
      obtain ⟨S4, e4, f5, g5, n5, h5⟩ := m2 g S3 kk (by omega) (mp.frm (f1.tr f4) g4) n3 (by rw [f3 35 0 (by omega)]; exact h1)
      refine ⟨S4, ?_, (f1.tr f4).tr f5, fun i hi => by rw [g5 i hi]; exact g4 i hi, n5, h5⟩
      show bX11_drift_18 (nI n) kk (lop (fun _ _ => none) (bX11_drift_18 (nI n) kk) g) (nI (n - (j + 1))) S = _
      generalize lop (fun _ _ => none) (bX11_drift_18 (nI n) kk) g = ag at e1 e4 ⊢
      unfold bX11_drift_18
      rw [if_neg (nI_ge (by omega) (by omega)), e1, cal_of e3, nI_1, show n - (j + 1) + 1 = n - j by omega]
      exact e4
theorem IC.nur {S S1 : St} {q : Nat → Nat} {π ν ν2 : Nat → Nat → Nat} {us im : Nat → Nat → Nat → Nat} {d : Nat → Nat → Nat} {fa : Int32} {r : Nat} (h : IC S q π ν us im d fa) (f : Fr frC S S1) (hN : CN S1 (q 7) (π 0 2) (π 1) ν2) (hr : S1 19 0 0 = nI r) : IC S1 (va_up q 1 r) π ν2 us im d fa := by
  obtain ⟨h0, h1, h2, h3, h4, h5, h6, h7, h8, h9⟩ := h
  refine ⟨?_, ?_, hN, ?_, hr, ?_, ?_, ?_, ?_, ?_⟩
  · rw [f 0 0 (by unfold frC; omega), f 33 0 (by unfold frC; omega), f 34 0 (by unfold frC; omega)]; exact h0
  · exact h1.frc f
  · rw [f 1 0 (by unfold frC; omega), f 2 0 (by unfold frC; omega)]; exact h3
  · rw [f 20 0 (by unfold frC; omega), f 21 0 (by unfold frC; omega), f 22 0 (by unfold frC; omega), f 23 0 (by unfold frC; omega)]; exact h5
  · rw [f 27 0 (by unfold frC; omega), f 28 0 (by unfold frC; omega), f 29 0 (by unfold frC; omega)]; exact h6
  · exact h7.fr (f 14 0 (by unfold frC; omega)) (fun o _ => f 17 o (by unfold frC; omega))
  · rw [f 14 0 (by unfold frC; omega)]; exact h8
  · intro i hi hb
    rw [f 17 _ (by unfold frC; omega), f 18 0 (by unfold frC; omega)]; exact h9 i hi hb
theorem IM.nur {S S1 : St} {q : Nat → Nat} {π ν ν2 : Nat → Nat → Nat} {us im : Nat → Nat → Nat → Nat} {d : Nat → Nat → Nat} {fa : Int32} {r : Nat} (h : IM S q π ν us im d fa) (f : Fr frM S S1) (g : ∀ i, i ≠ 9 → S1 35 0 i = S 35 0 i) (hN : MN (S1 40 0) (π 0 2) ν2) (hr : S1 35 0 9 = nI r) : IM S1 (va_up q 1 r) π ν2 us im d fa := by
  obtain ⟨m0, m1, m2, m3, m4, m5, m6, m7⟩ := h
  refine ⟨m0.frm f g, hN, ?_, hr, ?_, ?_, ?_, ?_⟩
  · rw [g 18 (by decide), g 19 (by decide), f 46 0 (by unfold frM; omega)]; exact m2
  · rw [g 10 (by decide), f 41 0 (by unfold frM; omega), f 42 0 (by unfold frM; omega), f 43 0 (by unfold frM; omega)]; exact m4
  · rw [g 14 (by decide), f 44 0 (by unfold frM; omega), f 45 0 (by unfold frM; omega)]; exact m5
  · unfold MU; rw [g 34 (by decide), f 54 0 (by unfold frM; omega)]; exact m6
  · intro i hi
    rw [f 60 0 (by unfold frM; omega), f 59 0 (by unfold frM; omega)]; exact m7 i hi
theorem same_drift (a : Int32) : Same (fX10_drift a) (fX11_drift a) := by
  rintro S ⟨q, π, ν, us, im, d, fa, hC, hM, hV⟩
  have hk := hC.k
  have w1 : ∀ S0, fX11_within a.toInt64 (1 : Int64) (60 : Int64) S0 = some (if (1 : Int32) ≤ a ∧ a ≤ 60 then 1 else 0, S0) := fun S0 => m_within a 1 60 S0
  have hmo : S 9 0 1 = nI (ν 0 0) := hC.2.2.1.2.1 0 (by decide)
  have bmo : ν 0 0 ≤ 9060 := hV.2.1.1.1
  by_cases h : (1 : Int32) ≤ a ∧ a ≤ 60
  · obtain ⟨j, hj1, hj, rfl⟩ := nat_of (lo := 1) (hi := 60) (by decide) (by decide) h
    by_cases hP : π 0 0 = 0
    · refine same_no (r := -1000000003) hC hM hV ?_ (fun S0 h0 => ?_)
      · simp only [fX10_drift, fX10_refusalOfMonths]
        rw [c_isOut, cal_s, if_pos h, if_pos rfl, hk, cal_of (c_isNone (hC.2.1.1 0 (by decide)) hV.1.1), if_pos hP, if_neg n10, cal_s, if_neg (by decide)]
      · simp only [fX11_drift, fX11_monthsRefused]
        rw [w1, cal_s, if_pos h, if_neg n10, h0.1.1, hP, if_pos (show nI 0 = (0 : Int32) from rfl), cal_s, if_neg (by decide)]
    · have hr : fX10_refusalOfMonths (nI j) S = some (if ν 0 0 ≤ 9000 then 0 else -1000000004, S) := by
        unfold fX10_refusalOfMonths
        rw [c_isOut, cal_s, if_pos h, if_pos rfl, hk, cal_of (c_isNone (hC.2.1.1 0 (by decide)) hV.1.1), if_neg hP, if_pos rfl, hmo]
        by_cases h9 : ν 0 0 ≤ 9000
        · rw [if_pos (show nI (ν 0 0) ≤ (9000 : Int32) from nI_le h9 (by decide)), if_pos h9]
        · rw [if_neg (show ¬ nI (ν 0 0) ≤ (9000 : Int32) from nI_ge (a := 9000) (by omega) (by omega)), if_neg h9]
      have hr2 : ∀ S0, IM S0 q π ν us im d fa → fX11_monthsRefused (nI j) S0 = some (if ν 0 0 ≤ 9000 then 0 else -1000000004, S0) := by
        intro S0 h0
        unfold fX11_monthsRefused
        rw [w1, cal_s, if_pos h, if_neg n10, h0.1.1, if_neg (nI_ne0 (by omega) (by have := hV.1.1; omega)), show (0 : Int32) = nI 0 from rfl, ck_nI (by decide) (by decide), nI_clamp (by decide), h0.2.1.1]
        by_cases h9 : ν 0 0 ≤ 9000
        · rw [if_pos (show nI (ν 0 0) ≤ (9000 : Int32) from nI_le h9 (by decide)), if_pos h9]
        · rw [if_neg (show ¬ nI (ν 0 0) ≤ (9000 : Int32) from nI_ge (a := 9000) (by omega) (by omega)), if_neg h9]
      by_cases h9 : ν 0 0 ≤ 9000
      · rw [if_pos h9] at hr
        have hu : q 4 ≤ 16 := hC.2.2.2.2.2.2.2.1.2.2.2.1
        obtain ⟨ν2, r2, q2, hr3, z2, c2, m2⟩ := drift_run (k := q 7) hV.1 hj j ν (q 1) (Nat.le_refl _) hV.2.1 hV.2.2.2.1 (by omega)
        obtain ⟨S1, nx, e1, c1, g1⟩ := c_pushI hC hV.1
        obtain ⟨S2, e2, f2, n2, h2⟩ := c2 FU S1 (fun S_54 => some ((S_54 9 0 1), S_54)) (by rw [FU_eq]; omega) c1.2.1 c1.2.2.1 c1.2.2.2.2.1
        rw [Nat.sub_self] at e2
        obtain ⟨v0, v1, v2, v3, v4, v5, v6, v7, v8⟩ := iv_psh nx hV hu
        refine same_ch (r := nI (ν 0 0 + j)) (S1 := S2) hM ?_ (fun a ha => (kind_of f2 (fun o => by unfold frC; omega)).trans (g1 a ha)) (c1.nur f2 n2 h2) ⟨v0, q2, v2, hr3, v4, v5, v6, v7, v8⟩ (fun S0 hM0 => ?_)
        · unfold fX10_drift
          rw [cal_of hr, if_pos rfl, cal_of e1, jn_e]
          refine e2.trans ?_
          show some (S2 9 0 1, S2) = _
          rw [show S2 9 0 1 = nI (ν2 0 0) from n2.2.1 0 (by decide), z2]
        · obtain ⟨S3, e3, c3, g3⟩ := m_remI nx hM0 hV.1 hu
          obtain ⟨S4, e4, f4, g4, n4, h4⟩ := m2 FU S3 (fun S_44 => ck (0 : Int32) 70 <| some ((S_44 40 0 (Int32.toNatClampNeg (0 : Int32))), S_44)) (by rw [FU_eq]; omega) c3.1 c3.2.1 c3.2.2.2.1
          rw [Nat.sub_self] at e4
          refine ⟨S4, ?_, c3.nur f4 g4 n4 h4, fun a ha => (kind_of f4 (fun o => by unfold frM; omega)).trans (g3 a ha)⟩
          have hr3 := hr2 S0 hM0
          rw [if_pos h9] at hr3
          unfold fX11_drift
          rw [cal_of hr3, if_pos rfl, cal_of e3, jn_e]
          refine e4.trans ?_
          show ck (nI 0) 70 (some (S4 40 0 0, S4)) = _
          rw [ck_nI (by decide) (by decide), n4.1, z2]
      · rw [if_neg h9] at hr
        refine same_no (r := -1000000004) hC hM hV ?_ (fun S0 h0 => ?_)
        · unfold fX10_drift
          rw [cal_of hr, if_neg (by decide)]
        · have hr3 := hr2 S0 h0
          rw [if_neg h9] at hr3
          unfold fX11_drift
          rw [cal_of hr3, if_neg (by decide)]
  · refine same_no (r := -1000000002) hC hM hV ?_ (fun S0 h0 => ?_)
    · simp only [fX10_drift, fX10_refusalOfMonths]
      rw [c_isOut, cal_s, if_neg h, if_neg n10, cal_s, if_neg (by decide)]
    · simp only [fX11_drift, fX11_monthsRefused]
      rw [w1, cal_s, if_neg h, if_pos rfl, cal_s, if_neg (by decide)]
