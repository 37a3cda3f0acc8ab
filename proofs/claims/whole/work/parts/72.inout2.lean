theorem m_hasIn {S : St} {π ν : Nat → Nat → Nat} {m : Nat} (hV : VP π) (hm : m < π 0 2) : fX11_has (nI (ins ν (π 0 2))) (nI m) S = some (if ν (m + 1) 0 = 1 then 1 else 0, S) := by
  have hM := hV.2.2.1
  rw [m_has (ins_lt ν hM) (by omega)]
  unfold ins
  rw [msk_bit]
  by_cases h : ν (m + 1) 0 = 1
  · simp [h, hm]
  · simp [h]
theorem same_in (a : Int32) : Same (fX10_in a) (fX11_in a) := by
  rintro S ⟨q, π, ν, us, im, d, fa, hC, hM, hV⟩
  have hk := hC.k
  have hMn : π 0 2 ≤ 6 := hV.1.2.2.1
  by_cases ha : isB a (π 0 2)
  · obtain ⟨m, hm, rfl⟩ := id ha
    have c1 := (hC.2.2.1.2.2 m hm).2.1
    have w1 := (hV.2.1.1.2.2.2 m hm).1
    have n2 : ∀ S0, IM S0 q π ν us im d fa → S0 40 0 2 = nI (ins ν (π 0 2)) := fun S0 h0 => h0.2.1.2.2.1
    by_cases hin : ν (m + 1) 0 = 1
    · refine same_no (r := -1000000003) hC hM hV ?_ (fun S0 h0 => ?_)
      · unfold fX10_in
        rw [hk, cal_of (c_man1 (hC.2.1.1 2 (by decide)) hMn ha), if_neg n10, ck_nI (show m < 6 by omega) (by omega), nI_clamp (by omega), c1, hin, if_pos (show nI 1 = (1 : Int32) from rfl)]
      · unfold fX11_in
        rw [cal_of (m_man1 h0.1.2.2.1 hMn ha), if_neg n10, show (2 : Int32) = nI 2 from rfl, ck_nI (show 2 < 70 by decide) (by decide), nI_clamp (by decide), n2 S0 h0, cal_of (m_hasIn hV.1 hm), if_pos hin, if_neg n10]
    · have h0n : ν (m + 1) 0 = 0 := by omega
      by_cases hf : cin ν (π 0 2) < π 0 0
      · have P3 := hV.1.1
        refine same_act (F := fun S_54 => ck (nI m) 6 <| bs (wr S_54 11 (Int32.toNatClampNeg (nI m)) 1 (1 : Int32)) fun S_67 => cal (fX7_freePits S_67) fun r_74 S_74 => some (r_74, S_74)) (G := fun S_38 => ck (2 : Int32) 70 <| ck (2 : Int32) 70 <| bs (wr S_38 40 0 (Int32.toNatClampNeg (2 : Int32)) ((S_38 40 0 (Int32.toNatClampNeg (2 : Int32))) ||| ((1 : Int32) <<< (nI m &&& (31 : Int32))))) fun S_52 => cal (fX11_free S_52) fun r_54 S_54 => some (r_54, S_54)) (ν2 := upn ν (m + 1) 0 1) (r := nI (π 0 0 - cin (upn ν (m + 1) 0 1) (π 0 2))) hC hM hV (fun S1 e1 => ?_) (fun S0 S1 h0 e1 => ?_) (fun S1 cp cn _ => ⟨wr S1 11 m 1 (nI 1), ?_, Fr.rf.wr (by omega), c_ins cn⟩) (fun S1 mp mn => ⟨wr S1 40 0 2 (nI (ins (upn ν (m + 1) 0 1) (π 0 2))), ?_, Fr.rf.wr (Or.inl rfl), m_ins mn⟩) (vq_in hV.2.1 hm h0n hf)
        · unfold fX10_in
          rw [hk, cal_of (c_man1 (hC.2.1.1 2 (by decide)) hMn ha), if_neg n10, ck_nI (show m < 6 by omega) (by omega), nI_clamp (by omega), c1, h0n, if_neg (by decide), cal_of (c_free hC.2.1 hC.2.2.1 hV.1 hV.2.1), if_pos (show (0 : Int32) < nI (π 0 0 - cin ν (π 0 2)) from nI_lt (a := 0) (by omega) (by omega)), cal_of e1]
        · unfold fX11_in
          rw [cal_of (m_man1 h0.1.2.2.1 hMn ha), if_neg n10, show (2 : Int32) = nI 2 from rfl, ck_nI (show 2 < 70 by decide) (by decide), nI_clamp (by decide), n2 S0 h0, cal_of (m_hasIn hV.1 hm), if_neg hin, if_pos rfl, cal_of (m_free h0.1 h0.2.1 hV.1 hV.2.1), if_neg (nI_ne0 (by omega) (by omega)), cal_of e1, ← show (2 : Int32) = nI 2 from rfl]
        · show ck _ _ _ = _
          rw [ck_nI (show m < 6 by omega) (by omega), bs_e, nI_clamp (by omega), show (1 : Int32) = nI 1 from rfl, cal_of (c_free (S := wr S1 11 m 1 (nI 1)) cp (c_ins cn) hV.1 (vq_in hV.2.1 hm h0n hf))]
        · have n2 : S1 40 0 2 = nI (ins ν (π 0 2)) := mn.2.2.1
          show ck _ _ _ = _
          rw [show (2 : Int32) = nI 2 from rfl, ck_nI (show 2 < 70 by decide) (by decide), ck_nI (show 2 < 70 by decide) (by decide), bs_e, nI_clamp (by decide), n2, or_in hMn hm, cal_of (m_free (S := wr S1 40 0 2 (nI (ins (upn ν (m + 1) 0 1) (π 0 2)))) mp (m_ins mn) hV.1 (vq_in hV.2.1 hm h0n hf))]
      · have e0 : π 0 0 - cin ν (π 0 2) = 0 := by omega
        refine same_no (r := -1000000004) hC hM hV ?_ (fun S0 h0 => ?_)
        · unfold fX10_in
          rw [hk, cal_of (c_man1 (hC.2.1.1 2 (by decide)) hMn ha), if_neg n10, ck_nI (show m < 6 by omega) (by omega), nI_clamp (by omega), c1, h0n, if_neg (by decide), cal_of (c_free hC.2.1 hC.2.2.1 hV.1 hV.2.1), e0, if_neg (by decide)]
        · unfold fX11_in
          rw [cal_of (m_man1 h0.1.2.2.1 hMn ha), if_neg n10, show (2 : Int32) = nI 2 from rfl, ck_nI (show 2 < 70 by decide) (by decide), nI_clamp (by decide), n2 S0 h0, cal_of (m_hasIn hV.1 hm), if_neg hin, if_pos rfl, cal_of (m_free h0.1 h0.2.1 hV.1 hV.2.1), e0, if_pos (show nI 0 = (0 : Int32) from rfl)]
  · refine same_no (r := -1000000001) hC hM hV ?_ (fun S0 h0 => ?_)
    · unfold fX10_in
      rw [hk, cal_of (c_man0 (hC.2.1.1 2 (by decide)) hMn ha), if_pos rfl]
    · unfold fX11_in
      rw [cal_of (m_man0 h0.1.2.2.1 hMn ha), if_pos rfl]
theorem same_out (a : Int32) : Same (fX10_out a) (fX11_out a) := by
  rintro S ⟨q, π, ν, us, im, d, fa, hC, hM, hV⟩
  have hk := hC.k
  have hMn : π 0 2 ≤ 6 := hV.1.2.2.1
  have hY := hV.1.2.2.2.2.1
  by_cases ha : isB a (π 0 2)
  · obtain ⟨m, hm, rfl⟩ := id ha
    have c1 := (hC.2.2.1.2.2 m hm).2.1
    have w1 := (hV.2.1.1.2.2.2 m hm).1
    have n2 : ∀ S0, IM S0 q π ν us im d fa → S0 40 0 2 = nI (ins ν (π 0 2)) := fun S0 h0 => h0.2.1.2.2.1
    by_cases hin : ν (m + 1) 0 = 1
    · have vq := vq_out hV.2.1 hm
      have hS := vq.1.vs hm
      refine same_act (F := fun S_40 => ck (nI m) 6 <| bs (wr S_40 11 (Int32.toNatClampNeg (nI m)) 1 (0 : Int32)) fun S_53 => ck (nI m) 6 <| cal (fX6_setBorne (pid (S_53 0 0 1)) (Int32.toNatClampNeg (nI m)) S_53) fun r_69 S_69 => some (r_69, S_69)) (G := fun S_28 => ck (2 : Int32) 70 <| ck (2 : Int32) 70 <| bs (wr S_28 40 0 (Int32.toNatClampNeg (2 : Int32)) ((S_28 40 0 (Int32.toNatClampNeg (2 : Int32))) &&& (((1 : Int32) <<< (nI m &&& (31 : Int32))) ^^^ (-1 : Int32)))) fun S_44 => cal (fX11_takesSkin (nI m) S_44) fun _ S_47 => cal (fX11_borneNow S_47) fun r_51 S_51 => some (r_51, S_51)) (ν2 := upn ν (m + 1) 0 0) (r := nI (msk (fun s => decide (pn π (fun p => upn ν (m + 1) 0 0 (m + 1) (2 + p)) (fun p => upn ν (m + 1) 0 0 (m + 1) (7 + p)) s ≤ 5)) (π 0 3))) hC hM hV (fun S1 e1 => ?_) (fun S0 S1 h0 e1 => ?_) (fun S1 cp cn k1 => ⟨wr S1 11 m 1 (nI 0), ?_, Fr.rf.wr (by omega), c_ins cn⟩) (fun S1 mp mn => ?_) vq
      · unfold fX10_out
        rw [hk, cal_of (c_man1 (hC.2.1.1 2 (by decide)) hMn ha), if_neg n10, ck_nI (show m < 6 by omega) (by omega), nI_clamp (by omega), c1, hin, if_neg (by decide), cal_of e1]
      · unfold fX11_out
        rw [cal_of (m_man1 h0.1.2.2.1 hMn ha), if_neg n10, show (2 : Int32) = nI 2 from rfl, ck_nI (show 2 < 70 by decide) (by decide), nI_clamp (by decide), n2 S0 h0, cal_of (m_hasIn hV.1 hm), if_pos hin, if_neg n10, cal_of e1, ← show (2 : Int32) = nI 2 from rfl]
      · show ck _ _ _ = _
        have k2 : pid ((wr S1 11 m 1 (nI 0)) 0 0 1) = q 7 := by rw [wr_i (by omega), k1]; exact pid_uid hC.1.1
        rw [ck_nI (show m < 6 by omega) (by omega), bs_e, ck_nI (show m < 6 by omega) (by omega), nI_clamp (by omega), show (0 : Int32) = nI 0 from rfl, k2, cal_of (c_setBorne (S := wr S1 11 m 1 (nI 0)) (k := q 7) cp.cy hY ((c_ins cn).sk hm) hS)]
      · have n2 : S1 40 0 2 = nI (ins ν (π 0 2)) := mn.2.2.1
        have mn2 := m_ins (m := m) (v := 0) mn
        obtain ⟨S2, e2, f1, f2⟩ := m_takesSkin (S := wr S1 40 0 2 (nI (ins (upn ν (m + 1) 0 0) (π 0 2)))) (show m < 6 by omega)
        have hK : SkM S2 (fun p => upn ν (m + 1) 0 0 (m + 1) (2 + p)) (fun p => upn ν (m + 1) 0 0 (m + 1) (7 + p)) := fun p hp => by
          rw [(f2 p hp).1, (f2 p hp).2]; exact (mn2.2.2.2.2 m hm).2 p hp
        have hY2 : MY S2 π := by unfold MY; rw [f1 35 0 (by omega), f1 38 0 (by omega), f1 39 0 (by omega)]; exact mp.my
        refine ⟨S2, ?_, (Fr.rf.wr (Or.inl rfl)).tr (f1.mono (fun a o h => by omega)), by rw [f1 40 0 (by omega)]; exact mn2⟩
        show ck _ _ _ = _
        rw [show (2 : Int32) = nI 2 from rfl, ck_nI (show 2 < 70 by decide) (by decide), ck_nI (show 2 < 70 by decide) (by decide), bs_e, nI_clamp (by decide), n2, an_out hMn hm, cal_of e2, cal_of (m_borne hY2 hY hK hS)]
    · have h0n : ν (m + 1) 0 = 0 := by omega
      refine same_no (r := -1000000003) hC hM hV ?_ (fun S0 h0 => ?_)
      · unfold fX10_out
        rw [hk, cal_of (c_man1 (hC.2.1.1 2 (by decide)) hMn ha), if_neg n10, ck_nI (show m < 6 by omega) (by omega), nI_clamp (by omega), c1, h0n, if_pos (show nI 0 = (0 : Int32) from rfl)]
      · unfold fX11_out
        rw [cal_of (m_man1 h0.1.2.2.1 hMn ha), if_neg n10, show (2 : Int32) = nI 2 from rfl, ck_nI (show 2 < 70 by decide) (by decide), nI_clamp (by decide), n2 S0 h0, cal_of (m_hasIn hV.1 hm), if_neg hin, if_pos rfl]
  · refine same_no (r := -1000000001) hC hM hV ?_ (fun S0 h0 => ?_)
    · unfold fX10_out
      rw [hk, cal_of (c_man0 (hC.2.1.1 2 (by decide)) hMn ha), if_pos rfl]
    · unfold fX11_out
      rw [cal_of (m_man0 h0.1.2.2.1 hMn ha), if_pos rfl]
