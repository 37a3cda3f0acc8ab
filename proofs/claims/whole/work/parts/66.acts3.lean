def upn (ν : Nat → Nat → Nat) (a i v : Nat) : Nat → Nat → Nat := fun x j => if x = a ∧ j = i then v else ν x j
theorem upn_same {ν : Nat → Nat → Nat} {a i v : Nat} : upn ν a i v a i = v := if_pos ⟨rfl, rfl⟩
theorem upn_at {ν : Nat → Nat → Nat} {a i v x j : Nat} (h : x = a ∧ j = i) : upn ν a i v x j = v := if_pos h
theorem upn_ne {ν : Nat → Nat → Nat} {a i v x j : Nat} (h : ¬ (x = a ∧ j = i)) : upn ν a i v x j = ν x j := if_neg h
theorem c_wound {S : St} {k m s : Nat} {π ν : Nat → Nat → Nat} (hC : CP S k π) (hN : CN S k (π 0 2) (π 1) ν) (hV : VP π) (hW : VN (π 0 2) ν) (hm : m < π 0 2) (hs : s < π 0 3) : ∃ S2, fX7_wound (nI m) (nI s) S = some (0, S2) ∧ Fr (fun a o => a = 11 ∧ o = m) S S2 ∧ CN S2 k (π 0 2) (π 1) (upn ν (m + 1) 1 (min 99999 (ν (m + 1) 1 + pn π (fun p => ν (m + 1) (2 + p)) (fun p => ν (m + 1) (7 + p)) s))) ∧ S2 11 m 2 = nI (min 99999 (ν (m + 1) 1 + pn π (fun p => ν (m + 1) (2 + p)) (fun p => ν (m + 1) (7 + p)) s)) := by
  have hM : π 0 2 ≤ 6 := hV.2.2.1
  have hp := pn_le hV.2.2.2.2.1 hs (hW.vs hm)
  have hw := (hW.2.2.2 m hm).2.1
  obtain ⟨g0, g1, g2, g3⟩ := hN.2.2 m hm
  refine ⟨wr S 11 m 2 (nI (min 99999 (ν (m + 1) 1 + pn π (fun p => ν (m + 1) (2 + p)) (fun p => ν (m + 1) (7 + p)) s))), ?_, Fr.rf.wr ⟨rfl, rfl⟩, ⟨hN.1, hN.2.1, fun m2 hm2 => ?_⟩, wr_same _ _ _ _ _⟩
  · simp only [fX7_wound, bs]
    rw [ck_nI (show m < 6 by omega) (by omega), ck_nI (show m < 6 by omega) (by omega), ck_nI (show m < 6 by omega) (by omega), hN.1, nI_clamp (by omega), cal_of (c_pain hC.cy hV.2.2.2.2.1 (hN.sk hm) (hW.vs hm) hs), g2, nI_add, show (99999 : Int32) = nI 99999 from rfl, imin_nI (by decide) (by omega)]
  · obtain ⟨k0, k1, k2, k3⟩ := hN.2.2 m2 hm2
    refine ⟨?_, ?_, ?_, fun p hp => ?_⟩
    · rw [wr_i (by omega)]; exact k0
    · rw [wr_i (by omega), upn_ne (by omega)]; exact k1
    · by_cases e : m2 = m
      · subst e; rw [wr_same, upn_same]
      · rw [wr_i (by omega), upn_ne (by omega)]; exact k2
    · rw [wr_i (by omega), wr_i (by omega), upn_ne (by omega), upn_ne (by omega)]; exact k3 p hp
theorem m_wounds {S : St} {m s : Nat} {π ν : Nat → Nat → Nat} (hC : MP S π) (hN : MN (S 40 0) (π 0 2) ν) (hV : VP π) (hW : VN (π 0 2) ν) (hm : m < π 0 2) (hs : s < π 0 3) : ∃ S2, fX11_wounds (nI s) (nI m) S = some (0, S2) ∧ Fr (fun a _ => a = 40 ∨ a = 51 ∨ a = 52) S S2 ∧ MN (S2 40 0) (π 0 2) (upn ν (m + 1) 1 (min 99999 (ν (m + 1) 1 + pn π (fun p => ν (m + 1) (2 + p)) (fun p => ν (m + 1) (7 + p)) s))) := by
  have hM : π 0 2 ≤ 6 := hV.2.2.1
  have hp := pn_le hV.2.2.2.2.1 hs (hW.vs hm)
  have hw := (hW.2.2.2 m hm).2.1
  obtain ⟨S1, e1, f1⟩ := m_hurtOf (S := S) (m := m) (s := s) hC.my hV.2.2.2.2.1 hN hW hM hm hs
  have e40 := f1 40 0 (by omega)
  refine ⟨wr S1 40 0 (64 + m) (nI (min 99999 (ν (m + 1) 1 + pn π (fun p => ν (m + 1) (2 + p)) (fun p => ν (m + 1) (7 + p)) s))), ?_, (f1.mono (fun a o h => by omega)).wr (Or.inl rfl), ?_⟩
  · simp only [fX11_wounds, bs, bi, jn]
    rw [show (64 : Int32) = nI 64 from rfl, nI_add, ck_nI (show 64 + m < 70 by omega) (by omega), cal_of e1, nI_clamp (by omega), (hN.2.2.2.2 m hm).1, nI_add]
    generalize hv : ν (m + 1) 1 + pn π (fun p => ν (m + 1) (2 + p)) (fun p => ν (m + 1) (7 + p)) s = v
    by_cases h : v ≤ 99999
    · rw [if_pos (show nI v ≤ (99999 : Int32) from nI_le h (by decide)), ck_nI (show 64 + m < 70 by omega) (by omega), Nat.min_eq_right h]
    · rw [if_neg (show ¬ nI v ≤ (99999 : Int32) from nI_ge (a := 99999) (by omega) (by omega)), ck_nI (show 64 + m < 70 by omega) (by omega), Nat.min_eq_left (by omega)]
      rfl
  · obtain ⟨n0, n1, n2, n3, n4⟩ := hN
    refine ⟨?_, ?_, ?_, ?_, fun m2 hm2 => ⟨?_, fun p hp => ?_⟩⟩
    · rw [wr_i (by omega), e40]; exact n0
    · rw [wr_i (by omega), e40]; exact n1
    · rw [wr_i (by omega), e40, n2]
      exact congrArg nI (msk_cong _ (fun i _ => by rw [upn_ne (by omega)]))
    · rw [wr_i (by omega), e40]; exact n3
    · by_cases e : m2 = m
      · subst e; rw [wr_same, upn_same]
      · rw [wr_i (by omega), upn_ne (by omega), e40]; exact (n4 m2 hm2).1
    · rw [wr_i (by omega), wr_i (by omega), upn_ne (by omega), upn_ne (by omega), e40]; exact (n4 m2 hm2).2 p hp
theorem vq_wound {π ν : Nat → Nat → Nat} {m v : Nat} (h : VQ π ν) : VQ π (upn ν (m + 1) 1 (min 99999 v)) := by
  obtain ⟨⟨a1, a2, a3, a4⟩, a5⟩ := h
  refine ⟨⟨?_, ?_, ?_, fun m2 hm2 => ⟨?_, ?_, fun p hp => ?_⟩⟩, ?_⟩
  · rw [upn_ne (by omega)]; exact a1
  · rw [upn_ne (by omega)]; exact a2
  · rw [upn_ne (by omega)]; exact a3
  · rw [upn_ne (by omega)]; exact (a4 m2 hm2).1
  · by_cases e : m2 = m
    · rw [upn_at (by omega)]; omega
    · rw [upn_ne (by omega)]; exact (a4 m2 hm2).2.1
  · rw [upn_ne (by omega), upn_ne (by omega)]; exact (a4 m2 hm2).2.2 p hp
  · exact Nat.le_trans (Nat.le_of_eq (cin_cong _ (fun m _ => upn_ne (by omega)))) a5
theorem same_say (a b : Int32) : Same (fX10_say a b) (fX11_say a b) := by
  rintro S ⟨q, π, ν, us, im, d, fa, hC, hM, hV⟩
  have hk := hC.k
  have hY : π 0 3 ≤ 8 := hV.1.2.2.2.2.1.1
  have hMn : π 0 2 ≤ 6 := hV.1.2.2.1
  by_cases ha : isB a (π 0 3)
  · by_cases hb : isB b (π 0 2)
    · obtain ⟨s, hs, rfl⟩ := id ha
      obtain ⟨m, hm, rfl⟩ := id hb
      refine same_act (F := fun S_33 => cal (fX7_wound (nI m) (nI s) S_33) fun _ S_42 => ck (nI m) 6 <| some ((S_42 11 (Int32.toNatClampNeg (nI m)) 2), S_42)) (G := fun S_20 => cal (fX11_wounds (nI s) (nI m) S_20) fun _ S_26 => ck ((64 : Int32) + nI m) 70 <| some ((S_26 40 0 (Int32.toNatClampNeg ((64 : Int32) + nI m))), S_26)) (ν2 := upn ν (m + 1) 1 (min 99999 (ν (m + 1) 1 + pn π (fun p => ν (m + 1) (2 + p)) (fun p => ν (m + 1) (7 + p)) s))) (r := nI (min 99999 (ν (m + 1) 1 + pn π (fun p => ν (m + 1) (2 + p)) (fun p => ν (m + 1) (7 + p)) s))) hC hM hV (fun S1 e1 => ?_) (fun S0 S1 h0 e1 => ?_) (fun S1 cp cn _ => ?_) (fun S1 mp mn => ?_) (vq_wound hV.2.1)
      · unfold fX10_say
        rw [hk, cal_of (c_say1 (hC.2.1.1 3 (by decide)) hY ha), if_neg n10, hk, cal_of (c_man1 (hC.2.1.1 2 (by decide)) hMn hb), if_neg n10, cal_of e1]
      · unfold fX11_say
        rw [cal_of (m_say1 h0.1.2.2.2.1 hY ha), if_neg n10, cal_of (m_man1 h0.1.2.2.1 hMn hb), if_neg n10, cal_of e1]
      · obtain ⟨S2, e2, f2, n2, w2⟩ := c_wound cp cn hV.1 hV.2.1.1 hm hs
        refine ⟨S2, ?_, f2.mono (fun a o h => by omega), n2⟩
        show cal _ _ = _
        rw [cal_of e2, ck_nI (show m < 6 by omega) (by omega), nI_clamp (by omega), w2]
      · obtain ⟨S2, e2, f2, n2⟩ := m_wounds mp mn hV.1 hV.2.1.1 hm hs
        refine ⟨S2, ?_, f2, n2⟩
        show cal _ _ = _
        rw [cal_of e2, show (64 : Int32) = nI 64 from rfl, nI_add, ck_nI (show 64 + m < 70 by omega) (by omega), nI_clamp (by omega), (n2.2.2.2.2 m hm).1, upn_same]
    · refine same_no (r := -1000000001) hC hM hV ?_ (fun S0 h0 => ?_)
      · unfold fX10_say
        rw [hk, cal_of (c_say1 (hC.2.1.1 3 (by decide)) hY ha), if_neg n10, hk, cal_of (c_man0 (hC.2.1.1 2 (by decide)) hMn hb), if_pos rfl]
      · unfold fX11_say
        rw [cal_of (m_say1 h0.1.2.2.2.1 hY ha), if_neg n10, cal_of (m_man0 h0.1.2.2.1 hMn hb), if_pos rfl]
  · refine same_no (r := -1000000001) hC hM hV ?_ (fun S0 h0 => ?_)
    · unfold fX10_say
      rw [hk, cal_of (c_say0 (hC.2.1.1 3 (by decide)) hY ha), if_pos rfl]
    · unfold fX11_say
      rw [cal_of (m_say0 h0.1.2.2.2.1 hY ha), if_pos rfl]
