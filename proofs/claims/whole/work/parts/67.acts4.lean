/-- scraping: n less soft at p, n more glue -/
def scr (ν : Nat → Nat → Nat) (m p n : Nat) : Nat → Nat → Nat := upn (upn ν (m + 1) (2 + p) (ν (m + 1) (2 + p) - n)) 0 2 (min 999999 (ν 0 2 + n))
theorem c_scrapeOff {S : St} {k m p n : Nat} {π ν : Nat → Nat → Nat} (hN : CN S k (π 0 2) (π 1) ν) (hV : VP π) (hW : VN (π 0 2) ν) (hm : m < π 0 2) (hp : p < 5) (hn : n ≤ ν (m + 1) (2 + p)) : ∃ S2, fX7_scrapeOff (nI m) (nI p) (nI n) S = some (0, S2) ∧ Fr (fun a o => (a = 9 ∧ o = 0) ∨ (a = 12 ∧ o = m)) S S2 ∧ CN S2 k (π 0 2) (π 1) (scr ν m p n) := by
  have hM : π 0 2 ≤ 6 := hV.2.2.1
  have hs := ((hW.2.2.2 m hm).2.2 p hp).1
  have hg := hW.2.2.1
  obtain ⟨g0, g1, g2, g3⟩ := hN.2.2 m hm
  refine ⟨wr (wr S 12 m p (nI (ν (m + 1) (2 + p) - n))) 9 0 3 (nI (min 999999 (ν 0 2 + n))), ?_, (Fr.rf.wr (Or.inr ⟨rfl, rfl⟩)).wr (Or.inl ⟨rfl, rfl⟩), ⟨hN.1, fun i hi => ?_, fun m2 hm2 => ?_⟩⟩
  · simp only [fX7_scrapeOff, bs]
    rw [ck_nI (show m < 6 by omega) (by omega), ck_nI hp (by omega), ck_nI hp (by omega), nI_clamp (show m < 2 ^ 31 by omega), nI_clamp (show p < 2 ^ 31 by omega), (g3 p hp).1, pk_sub hn]
    show some ((0 : Int32), wr _ 9 0 3 (imin 999999 (S 9 0 3 + nI n))) = _
    rw [show S 9 0 3 = nI (ν 0 2) from hN.2.1 2 (by decide), nI_add, show (999999 : Int32) = nI 999999 from rfl, imin_nI (by decide) (by omega)]
  · unfold scr
    rcases (show i = 0 ∨ i = 1 ∨ i = 2 by omega) with rfl | rfl | rfl
    · rw [upn_ne (by omega), upn_ne (by omega)]; exact hN.2.1 0 (by decide)
    · rw [upn_ne (by omega), upn_ne (by omega)]; exact hN.2.1 1 (by decide)
    · rw [upn_same]; exact wr_same _ _ _ _ _
  · obtain ⟨k0, k1, k2, k3⟩ := hN.2.2 m2 hm2
    unfold scr
    refine ⟨k0, by rw [upn_ne (by omega), upn_ne (by omega)]; exact k1, by rw [upn_ne (by omega), upn_ne (by omega)]; exact k2, fun p2 hp2 => ⟨?_, ?_⟩⟩
    · rw [upn_ne (by omega), wr_i (by omega)]
      by_cases e : m2 = m ∧ p2 = p
      · obtain ⟨rfl, rfl⟩ := e
        rw [upn_same, wr_same]
      · rw [upn_ne (by omega), wr_i (by omega)]; exact (k3 p2 hp2).1
    · rw [upn_ne (by omega), upn_ne (by omega), wr_i (by omega), wr_i (by omega)]; exact (k3 p2 hp2).2
theorem m_scrapes {S : St} {m p n : Nat} {π ν : Nat → Nat → Nat} (hN : MN (S 40 0) (π 0 2) ν) (hV : VP π) (hW : VN (π 0 2) ν) (hm : m < π 0 2) (hp : p < 5) (hn : n ≤ ν (m + 1) (2 + p)) : ∃ S2, fX11_scrapes (nI m) (nI p) (nI n) S = some (0, S2) ∧ Fr (fun a o => a = 40 ∧ o = 0) S S2 ∧ MN (S2 40 0) (π 0 2) (scr ν m p n) := by
  have hM : π 0 2 ≤ 6 := hV.2.2.1
  have hs := ((hW.2.2.2 m hm).2.2 p hp).1
  have hg := hW.2.2.1
  obtain ⟨n0, n1, n2, n3, n4⟩ := hN
  refine ⟨wr (wr S 40 0 (4 + 5 * m + p) (nI (ν (m + 1) (2 + p) - n))) 40 0 3 (nI (min 999999 (ν 0 2 + n))), ?_, (Fr.rf.wr ⟨rfl, rfl⟩).wr ⟨rfl, rfl⟩, ?_⟩
  · simp only [fX11_scrapes, bs, jn]
    rw [show (4 : Int32) = nI 4 from rfl, show (5 : Int32) = nI 5 from rfl, pk_mul, nI_add, nI_add, ck_nI (show 4 + 5 * m + p < 70 by omega) (by omega), ck_nI (show 4 + 5 * m + p < 70 by omega) (by omega), nI_clamp (by omega), ((n4 m hm).2 p hp).1, pk_sub hn, show (3 : Int32) = nI 3 from rfl, ck_nI (by decide) (by decide), ck_nI (by decide) (by decide), ck_nI (by decide) (by decide), nI_clamp (by decide), wr_i (a2 := 40) (o2 := 0) (i2 := 3) (by omega), n3, nI_add]
    by_cases h : ν 0 2 + n ≤ 999999
    · rw [if_pos (show nI (ν 0 2 + n) ≤ (999999 : Int32) from nI_le h (by decide)), Nat.min_eq_right h]
    · rw [if_neg (show ¬ nI (ν 0 2 + n) ≤ (999999 : Int32) from nI_ge (a := 999999) (by omega) (by omega)), Nat.min_eq_left (by omega)]
      rfl
  · unfold scr
    refine ⟨?_, ?_, ?_, ?_, fun m2 hm2 => ⟨?_, fun p2 hp2 => ⟨?_, ?_⟩⟩⟩
    · rw [wr_i (by omega), wr_i (by omega), upn_ne (by omega), upn_ne (by omega)]; exact n0
    · rw [wr_i (by omega), wr_i (by omega), upn_ne (by omega), upn_ne (by omega)]; exact n1
    · rw [wr_i (by omega), wr_i (by omega), n2]
      exact congrArg nI (msk_cong _ (fun i _ => by rw [upn_ne (by omega), upn_ne (by omega)]))
    · rw [wr_same, upn_same]
    · rw [wr_i (by omega), wr_i (by omega), upn_ne (by omega), upn_ne (by omega)]; exact (n4 m2 hm2).1
    · rw [wr_i (by omega), upn_ne (by omega)]
      by_cases e : m2 = m ∧ p2 = p
      · obtain ⟨rfl, rfl⟩ := e
        rw [upn_same, wr_same]
      · rw [upn_ne (by omega), wr_i (by omega)]; exact ((n4 m2 hm2).2 p2 hp2).1
    · rw [wr_i (by omega), wr_i (by omega), upn_ne (by omega), upn_ne (by omega)]; exact ((n4 m2 hm2).2 p2 hp2).2
theorem vq_scr {π ν : Nat → Nat → Nat} {m p n : Nat} (h : VQ π ν) (hm : m < π 0 2) (hp : p < 5) : VQ π (scr ν m p n) := by
  obtain ⟨⟨a1, a2, a3, a4⟩, a5⟩ := h
  unfold scr
  refine ⟨⟨?_, ?_, ?_, fun m2 hm2 => ⟨?_, ?_, fun p2 hp2 => ⟨?_, ?_⟩⟩⟩, ?_⟩
  · rw [upn_ne (by omega), upn_ne (by omega)]; exact a1
  · rw [upn_ne (by omega), upn_ne (by omega)]; exact a2
  · rw [upn_same]; omega
  · rw [upn_ne (by omega), upn_ne (by omega)]; exact (a4 m2 hm2).1
  · rw [upn_ne (by omega), upn_ne (by omega)]; exact (a4 m2 hm2).2.1
  · rw [upn_ne (by omega)]
    by_cases e : m2 = m ∧ p2 = p
    · rw [upn_at (by omega)]; have := ((a4 m hm).2.2 p hp).1; omega
    · rw [upn_ne (by omega)]; exact ((a4 m2 hm2).2.2 p2 hp2).1
  · rw [upn_ne (by omega), upn_ne (by omega)]; exact ((a4 m2 hm2).2.2 p2 hp2).2
  · exact Nat.le_trans (Nat.le_of_eq (cin_cong _ (fun m _ => by rw [upn_ne (by omega), upn_ne (by omega)]))) a5
theorem same_scrape (a b c : Int32) : Same (fX10_scrape a b c) (fX11_scrape a b c) := by
  rintro S ⟨q, π, ν, us, im, d, fa, hC, hM, hV⟩
  have hk := hC.k
  have hMn : π 0 2 ≤ 6 := hV.1.2.2.1
  have w1 : ∀ S0, fX11_within c.toInt64 (1 : Int64) (30 : Int64) S0 = some (if (1 : Int32) ≤ c ∧ c ≤ 30 then 1 else 0, S0) := fun S0 => m_within c 1 30 S0
  by_cases ha : isB a (π 0 2)
  · have ea := ha
    obtain ⟨m, hm, rfl⟩ := ea
    by_cases hb : (0 : Int32) ≤ b ∧ b ≤ 4
    · obtain ⟨p, -, hp, rfl⟩ := nat_of (lo := 0) (hi := 4) (by decide) (by decide) hb
      by_cases hc : (1 : Int32) ≤ c ∧ c ≤ 30
      · obtain ⟨n, hn1, hn, rfl⟩ := nat_of (lo := 1) (hi := 30) (by decide) (by decide) hc
        have hs := ((hV.2.1.1.2.2.2 m hm).2.2 p (by omega)).1
        have cs : S 12 m p = nI (ν (m + 1) (2 + p)) := ((hC.2.2.1.2.2 m hm).2.2.2 p (by omega)).1
        have pre : ∀ S0, IM S0 q π ν us im d fa → S0 40 0 (4 + 5 * m + p) = nI (ν (m + 1) (2 + p)) := fun S0 h0 => ((h0.2.1.2.2.2.2 m hm).2 p (by omega)).1
        by_cases hle : n ≤ ν (m + 1) (2 + p)
        · refine same_act (F := fun S_65 => cal (fX7_scrapeOff (nI m) (nI p) (nI n) S_65) fun _ S_75 => ck (nI m) 6 <| ck (nI p) 5 <| some ((S_75 12 (Int32.toNatClampNeg (nI m)) (Int32.toNatClampNeg (nI p))), S_75)) (G := fun S_53 => cal (fX11_scrapes (nI m) (nI p) (nI n) S_53) fun _ S_60 => ck (((4 : Int32) + ((5 : Int32) * nI m)) + nI p) 70 <| some ((S_60 40 0 (Int32.toNatClampNeg (((4 : Int32) + ((5 : Int32) * nI m)) + nI p))), S_60)) (ν2 := scr ν m p n) (r := nI (ν (m + 1) (2 + p) - n)) hC hM hV (fun S1 e1 => ?_) (fun S0 S1 h0 e1 => ?_) (fun S1 cp cn _ => ?_) (fun S1 mp mn => ?_) (vq_scr hV.2.1 hm (by omega))
          · unfold fX10_scrape
            rw [hk, cal_of (c_man1 (hC.2.1.1 2 (by decide)) hMn ha), if_neg n10, c_isOut, cal_s, if_pos hb, if_pos rfl, c_isOut, cal_s, if_pos hc, if_pos rfl, ck_nI (show m < 6 by omega) (by omega), ck_nI (show p < 5 by omega) (by omega), nI_clamp (show m < 2 ^ 31 by omega), nI_clamp (show p < 2 ^ 31 by omega), cs, if_pos (nI_le hle (by omega)), cal_of e1]
          · unfold fX11_scrape
            rw [cal_of (m_man1 h0.1.2.2.1 hMn ha), if_neg n10, m_place, cal_s, if_pos hb, if_neg n10, w1, cal_s, if_pos hc, if_neg n10, show (4 : Int32) = nI 4 from rfl, show (5 : Int32) = nI 5 from rfl, pk_mul, nI_add, nI_add, ck_nI (show 4 + 5 * m + p < 70 by omega) (by omega), nI_clamp (show 4 + 5 * m + p < 2 ^ 31 by omega), pre S0 h0, if_pos (nI_le hle (by omega)), cal_of e1]
          · obtain ⟨S2, e2, f2, n2⟩ := c_scrapeOff cn hV.1 hV.2.1.1 hm (show p < 5 by omega) hle
            refine ⟨S2, ?_, f2.mono (fun a o h => by omega), n2⟩
            show cal _ _ = _
            rw [cal_of e2, ck_nI (show m < 6 by omega) (by omega), ck_nI (show p < 5 by omega) (by omega), nI_clamp (show m < 2 ^ 31 by omega), nI_clamp (show p < 2 ^ 31 by omega), ((n2.2.2 m hm).2.2.2 p (by omega)).1]
            unfold scr
            rw [upn_ne (by omega), upn_same]
          · obtain ⟨S2, e2, f2, n2⟩ := m_scrapes mn hV.1 hV.2.1.1 hm (show p < 5 by omega) hle
            refine ⟨S2, ?_, f2.mono (fun a o h => by omega), n2⟩
            show cal _ _ = _
            rw [cal_of e2, show (4 : Int32) = nI 4 from rfl, show (5 : Int32) = nI 5 from rfl, pk_mul, nI_add, nI_add, ck_nI (show 4 + 5 * m + p < 70 by omega) (by omega), nI_clamp (by omega), ((n2.2.2.2.2 m hm).2 p (by omega)).1]
            unfold scr
            rw [upn_ne (by omega), upn_same]
        · refine same_no (r := -1000000003) hC hM hV ?_ (fun S0 h0 => ?_)
          · unfold fX10_scrape
            rw [hk, cal_of (c_man1 (hC.2.1.1 2 (by decide)) hMn ha), if_neg n10, c_isOut, cal_s, if_pos hb, if_pos rfl, c_isOut, cal_s, if_pos hc, if_pos rfl, ck_nI (show m < 6 by omega) (by omega), ck_nI (show p < 5 by omega) (by omega), nI_clamp (show m < 2 ^ 31 by omega), nI_clamp (show p < 2 ^ 31 by omega), cs, if_neg (nI_ge (by omega) (by omega))]
          · unfold fX11_scrape
            rw [cal_of (m_man1 h0.1.2.2.1 hMn ha), if_neg n10, m_place, cal_s, if_pos hb, if_neg n10, w1, cal_s, if_pos hc, if_neg n10, show (4 : Int32) = nI 4 from rfl, show (5 : Int32) = nI 5 from rfl, pk_mul, nI_add, nI_add, ck_nI (show 4 + 5 * m + p < 70 by omega) (by omega), nI_clamp (show 4 + 5 * m + p < 2 ^ 31 by omega), pre S0 h0, if_neg (nI_ge (by omega) (by omega))]
      · refine same_no (r := -1000000002) hC hM hV ?_ (fun S0 h0 => ?_)
        · unfold fX10_scrape
          rw [hk, cal_of (c_man1 (hC.2.1.1 2 (by decide)) hMn ha), if_neg n10, c_isOut, cal_s, if_pos hb, if_pos rfl, c_isOut, cal_s, if_neg hc, if_neg n10]
        · unfold fX11_scrape
          rw [cal_of (m_man1 h0.1.2.2.1 hMn ha), if_neg n10, m_place, cal_s, if_pos hb, if_neg n10, w1, cal_s, if_neg hc, if_pos rfl]
    · refine same_no (r := -1000000002) hC hM hV ?_ (fun S0 h0 => ?_)
      · unfold fX10_scrape
        rw [hk, cal_of (c_man1 (hC.2.1.1 2 (by decide)) hMn ha), if_neg n10, c_isOut, cal_s, if_neg hb, if_neg n10]
      · unfold fX11_scrape
        rw [cal_of (m_man1 h0.1.2.2.1 hMn ha), if_neg n10, m_place, cal_s, if_neg hb, if_pos rfl]
  · refine same_no (r := -1000000001) hC hM hV ?_ (fun S0 h0 => ?_)
    · unfold fX10_scrape
      rw [hk, cal_of (c_man0 (hC.2.1.1 2 (by decide)) hMn ha), if_pos rfl]
    · unfold fX11_scrape
      rw [cal_of (m_man0 h0.1.2.2.1 hMn ha), if_pos rfl]
theorem same_undo : Same fX10_undo fX11_undo := by
  rintro S ⟨q, π, ν, us, im, d, fa, hC, hM, hV⟩
  obtain ⟨h0, h1, h2, h3, h4, h5, h6, h7, h8, h9⟩ := id hC
  have hu : q 4 ≤ 16 := h7.2.2.2.1
  by_cases hz : q 4 = 0
  · refine same_no (r := -1000000003) hC hM hV ?_ (fun S0 m0 => ?_)
    · unfold fX10_undo
      rw [h7.2.2.1, hz, if_neg (by decide)]
    · unfold fX11_undo
      rw [m0.2.2.2.2.2.2.1.1, hz, if_pos (show nI 0 = (0 : Int32) from rfl)]
  · obtain ⟨S1, nx, e1, f1, g1, u1, n1⟩ := c_pop h1 h2 hV.1 h7 (by omega)
    refine same_ch (q2 := va_up (va_up q 4 (q 4 - 1)) 5 nx) (π2 := π) (ν2 := us (q 4 - 1)) (us2 := us) (im2 := im) (d2 := d) (fa2 := fa) (r := nI (q 4 - 1)) (S1 := S1) hM ?_ (fun a ha => kind_of f1 (fun o => by omega)) ⟨?_, ?_, n1, ?_, ?_, ?_, ?_, u1, ?_, ?_⟩ ?_ (fun S0 m0 => ?_)
    · unfold fX10_undo
      rw [h7.2.2.1, if_pos (show (0 : Int32) < nI (q 4) from nI_lt (a := 0) (by omega) (by omega)), cal_of e1, u1.2.2.1]
    · rw [f1 0 0 (by omega), f1 33 0 (by omega), f1 34 0 (by omega)]; exact h0
    · exact h1.fr (f1 3 _ (by omega)) (f1 4 _ (by omega)) (fun o => f1 6 o (by omega)) (f1 7 _ (by omega)) (f1 8 _ (by omega))
    · rw [f1 1 0 (by omega), f1 2 0 (by omega)]; exact h3
    · rw [f1 19 0 (by omega)]; exact h4
    · rw [f1 20 0 (by omega), f1 21 0 (by omega), f1 22 0 (by omega), f1 23 0 (by omega)]; exact h5
    · rw [f1 27 0 (by omega), f1 28 0 (by omega), f1 29 0 (by omega)]; exact h6
    · rw [g1]; exact h8
    · intro i hi hb
      rw [f1 17 _ (by omega), f1 18 0 (by omega)]; exact h9 i hi hb
    · obtain ⟨v0, v1, v2, v3, v4, v5, v6, v7, v8⟩ := hV
      refine ⟨v0, v6 _ (by omega), v2, v3, v4, v5, fun i hi => ?_, v7, v8⟩
      have hi : i < q 4 - 1 := hi
      exact v6 i (by omega)
    · obtain ⟨m0, m1, m2, m3, m4, m5, m6, m7⟩ := m0
      obtain ⟨S2, e2, f2, n2⟩ := m_undo22 (S := wr S0 35 0 34 (nI (q 4 - 1))) (u := q 4 - 1) (by omega) (wr_same _ _ _ _ _)
      refine ⟨S2, ?_, ⟨?_, ?_, ?_, ?_, ?_, ?_, ⟨?_, fun i hi => ?_⟩, fun i hi => ?_⟩, fun a ha => ?_⟩
      · unfold fX11_undo
        rw [m6.1, if_neg (nI_ne0 (by omega) (by omega)), bs_e, jn_e, show (1 : Int32) = nI 1 from rfl, pk_sub (show 1 ≤ q 4 by omega), e2, f2 35 0 (by omega), wr_same]
      · unfold MP; rw [f2 35 0 (by omega), f2 36 0 (by omega), f2 37 0 (by omega), f2 38 0 (by omega), f2 39 0 (by omega)]; exact m0
      · exact (m6.2 (q 4 - 1) (by omega)).cong hV.1.2.2.1 (fun j hj => by rw [n2 j hj]; rfl)
      · rw [f2 35 0 (by omega), f2 46 0 (by omega)]; exact m2
      · rw [f2 35 0 (by omega)]; exact m3
      · rw [f2 35 0 (by omega), f2 41 0 (by omega), f2 42 0 (by omega), f2 43 0 (by omega)]; exact m4
      · rw [f2 35 0 (by omega), f2 44 0 (by omega), f2 45 0 (by omega)]; exact m5
      · rw [f2 35 0 (by omega)]; exact wr_same _ _ _ _ _
      · have hi : i < q 4 - 1 := hi
        rw [f2 54 0 (by omega)]; exact m6.2 i (by omega)
      · rw [f2 60 0 (by omega), f2 59 0 (by omega)]; exact m7 i hi
      · rw [kind_of f2 (fun o => by omega), wr_kind (by omega)]
