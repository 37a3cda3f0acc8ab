theorem n01 : ¬ (0 : Int32) = 1 := by decide
/-- months, one after another -/
def itr (kd : Nat → Nat) (ν : Nat → Nat → Nat) : Nat → Nat → Nat → Nat
  | 0 => ν
  | n + 1 => pas kd (itr kd ν n)
theorem itr_0 {kd : Nat → Nat} {ν : Nat → Nat → Nat} : ∀ n, itr kd ν n 0 0 = ν 0 0 + n
  | 0 => rfl
  | n + 1 => by show itr kd ν n 0 0 + 1 = _; rw [itr_0 n, Nat.add_assoc]
theorem itr_v {M : Nat} {kd : Nat → Nat} {ν : Nat → Nat → Nat} (h : VN M ν) : ∀ n, ν 0 0 + n ≤ 9060 → VN M (itr kd ν n)
  | 0, _ => h
  | n + 1, h2 => pas_vn (itr_v h n (by omega)) (by rw [itr_0]; omega)
theorem itr_c {M : Nat} {kd : Nat → Nat} {ν : Nat → Nat → Nat} : ∀ n, cin (itr kd ν n) M = cin ν M
  | 0 => rfl
  | n + 1 => (cin_cong M (fun m _ => pas_lo (by decide))).trans (itr_c n)
theorem same_month (a : Int32) : Same (fX10_month a) (fX11_month a) := by
  rintro S ⟨q, π, ν, us, im, d, fa, hC, hM, hV⟩
  have hk := hC.k
  have w1 : ∀ S0, fX11_within a.toInt64 (1 : Int64) (60 : Int64) S0 = some (if (1 : Int32) ≤ a ∧ a ≤ 60 then 1 else 0, S0) := fun S0 => m_within a 1 60 S0
  have hmo : S 9 0 1 = nI (ν 0 0) := hC.2.2.1.2.1 0 (by decide)
  have bmo : ν 0 0 ≤ 9060 := hV.2.1.1.1
  by_cases h : (1 : Int32) ≤ a ∧ a ≤ 60
  · obtain ⟨j, hj1, hj, rfl⟩ := nat_of (lo := 1) (hi := 60) (by decide) (by decide) h
    by_cases hP : π 0 0 = 0
    · refine same_no (r := -1000000003) hC hM hV ?_ (fun S0 h0 => ?_)
      · simp only [fX10_month, fX10_refusalOfMonths]
        rw [c_isOut, cal_s, if_pos h, if_pos rfl, hk, cal_of (c_isNone (hC.2.1.1 0 (by decide)) hV.1.1), if_pos hP, if_neg n10, cal_s, if_neg (by decide)]
      · simp only [fX11_month, fX11_monthsRefused]
        rw [w1, cal_s, if_pos h, if_neg n10, h0.1.1, hP, if_pos (show nI 0 = (0 : Int32) from rfl), cal_s, if_neg (by decide)]
    · have hr : fX10_refusalOfMonths (nI j) S = some (if ν 0 0 ≤ 9000 then 0 else -1000000004, S) := by
        unfold fX10_refusalOfMonths
        rw [c_isOut, cal_s, if_pos h, if_pos rfl, hk, cal_of (c_isNone (hC.2.1.1 0 (by decide)) hV.1.1), if_neg hP, if_pos rfl, hmo]
        by_cases h9 : ν 0 0 ≤ 9000
        · rw [if_pos (show nI (ν 0 0) ≤ (9000 : Int32) from nI_le h9 (by decide)), if_pos h9]
        · rw [if_neg (show ¬ nI (ν 0 0) ≤ (9000 : Int32) from nI_ge (a := 9000) (by omega) (by omega)), if_neg h9]
      have hr2 : ∀ S0, IM S0 q π ν us im d fa → fX11_monthsRefused (nI j) S0 = some (if ν 0 0 ≤ 9000 then 0 else -1000000004, S0) := by
        intro S0 h0
        unfold fX11_monthsRefused
        rw [w1, cal_s, if_pos h, if_neg n10, h0.1.1, if_neg (nI_ne0 (by omega) (by have := hV.1.1; omega)), show (0 : Int32) = nI 0 from rfl, ck_nI (by decide) (by decide), nI_clamp (by decide), h0.2.1.1]
        by_cases h9 : ν 0 0 ≤ 9000
        · rw [if_pos (show nI (ν 0 0) ≤ (9000 : Int32) from nI_le h9 (by decide)), if_pos h9]
        · rw [if_neg (show ¬ nI (ν 0 0) ≤ (9000 : Int32) from nI_ge (a := 9000) (by omega) (by omega)), if_neg h9]
      by_cases h9 : ν 0 0 ≤ 9000
      · rw [if_pos h9] at hr
        refine same_act (F := fun S_20 => jn (fun (S_43 : St) => some ((S_43 9 0 1), S_43)) fun kk25 => lop (fun _ _ => none) (bX10_month_25 (nI j) kk25) FU (0 : Int32) S_20) (G := fun S_13 => jn (fun (S_33 : St) => ck (0 : Int32) 70 <| some ((S_33 40 0 (Int32.toNatClampNeg (0 : Int32))), S_33)) fun kk18 => lop (fun _ _ => none) (bX11_month_18 (nI j) kk18) FU (0 : Int32) S_13) (ν2 := itr (π 1) ν j) (r := nI (ν 0 0 + j)) hC hM hV (fun S1 e1 => ?_) (fun S0 S1 h0 e1 => ?_) (fun S1 cp cn _ => ?_) (fun S1 mp mn => ?_) ⟨itr_v hV.2.1.1 j (by omega), by rw [itr_c]; exact hV.2.1.2⟩
        · unfold fX10_month
          rw [cal_of hr, if_pos rfl, cal_of e1]
        · have hr3 := hr2 S0 h0
          rw [if_pos h9] at hr3
          unfold fX11_month
          rw [cal_of hr3, if_pos rfl, cal_of e1]
        · have fin := lopSK (i0 := 0) (N := j) (z := fun _ _ => none) (b := bX10_month_25 (nI j)) (x := 0) (S := S1)
            (fun i S2 => Fr (fun a o => (a = 9 ∧ o = 0) ∨ ((a = 11 ∨ a = 12 ∨ a = 13) ∧ o < 6)) S1 S2 ∧ CN S2 (q 7) (π 0 2) (π 1) (itr (π 1) ν i)) ?hs ?he (Nat.zero_le _) (by rw [FU_eq]; omega) rfl ⟨Fr.rf, cn⟩
          case hs =>
            intro i S2 _ hi ⟨f1, n1⟩
            obtain ⟨S3, e3, f3, n3⟩ := c_passMonth (cp.fr (f1 3 _ (by omega)) (f1 4 _ (by omega)) (fun o => f1 6 o (by omega)) (f1 7 _ (by omega)) (f1 8 _ (by omega))) n1 hV.1 (itr_v hV.2.1.1 i (by omega))
            refine ⟨S3, ⟨f1.tr (f3.mono (fun a o h => by omega)), n3⟩, fun kk ag => ?_⟩
            unfold bX10_month_25
            rw [if_neg (nI_ge hi (by omega)), cal_of e3, nI_1]
          case he =>
            intro S2 _ kk ag
            unfold bX10_month_25
            rw [if_pos (nI_le (Nat.le_refl _) (by omega))]
          obtain ⟨S2, ⟨f1, n1⟩, e⟩ := fin
          refine ⟨S2, ?_, f1, n1⟩
          show jn _ _ = _
          rw [jn_e, e, show S2 9 0 1 = nI (itr (π 1) ν j 0 0) from n1.2.1 0 (by decide), itr_0]
        · have fin := lopSK (i0 := 0) (N := j) (z := fun _ _ => none) (b := bX11_month_18 (nI j)) (x := 0) (S := S1)
            (fun i S2 => Fr (fun a _ => a = 40 ∨ a = 51 ∨ a = 52) S1 S2 ∧ MN (S2 40 0) (π 0 2) (itr (π 1) ν i)) ?hs2 ?he2 (Nat.zero_le _) (by rw [FU_eq]; omega) rfl ⟨Fr.rf, mn⟩
          case hs2 =>
            intro i S2 _ hi ⟨f1, n1⟩
            have mp2 : MP S2 π := by unfold MP; rw [f1 35 0 (by omega), f1 36 0 (by omega), f1 37 0 (by omega), f1 38 0 (by omega), f1 39 0 (by omega)]; exact mp
            obtain ⟨S3, e3, f3, n3⟩ := m_passes mp2 n1 hV.1 (itr_v hV.2.1.1 i (by omega))
            refine ⟨S3, ⟨f1.tr f3, n3⟩, fun kk ag => ?_⟩
            unfold bX11_month_18
            rw [if_neg (nI_ge hi (by omega)), cal_of e3, nI_1]
          case he2 =>
            intro S2 _ kk ag
            unfold bX11_month_18
            rw [if_pos (nI_le (Nat.le_refl _) (by omega))]
          obtain ⟨S2, ⟨f1, n1⟩, e⟩ := fin
          refine ⟨S2, ?_, f1, n1⟩
          show jn _ _ = _
          rw [jn_e, e, show (0 : Int32) = nI 0 from rfl, ck_nI (by decide) (by decide), nI_clamp (by decide), n1.1, itr_0]
      · rw [if_neg h9] at hr
        refine same_no (r := -1000000004) hC hM hV ?_ (fun S0 h0 => ?_)
        · unfold fX10_month
          rw [cal_of hr, if_neg (by decide)]
        · have hr3 := hr2 S0 h0
          rw [if_neg h9] at hr3
          unfold fX11_month
          rw [cal_of hr3, if_neg (by decide)]
  · refine same_no (r := -1000000002) hC hM hV ?_ (fun S0 h0 => ?_)
    · simp only [fX10_month, fX10_refusalOfMonths]
      rw [c_isOut, cal_s, if_neg h, if_neg n10, cal_s, if_neg (by decide)]
    · simp only [fX11_month, fX11_monthsRefused]
      rw [w1, cal_s, if_neg h, if_pos rfl, cal_s, if_neg (by decide)]
