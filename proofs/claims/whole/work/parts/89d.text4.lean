theorem CP.wsay {S S2 S3 : St} {o a b Y : Nat} {π : Nat → Nat → Nat} (h : CP S o π) (hY : π 0 3 = Y) (e3 : ∀ x, x < 3 → S3 3 o x = S 3 o x) (e33 : S3 3 o 3 = nI (Y + 1)) (e4 : S3 4 o = S 4 o) (e6 : ∀ q, S3 6 q = S 6 q) (e7 : ∀ x, x ≠ Y → S3 7 o x = S 7 o x) (e7Y : S3 7 o Y = nI a) (e8 : ∀ x, x ≠ Y → S3 8 o x = S 8 o x) (e8Y : S3 8 o Y = nI b) : CP S3 o (pu2 (pu2 (pu2 π 2 Y a) 3 Y b) 0 3 (Y + 1)) := by
  refine ⟨fun i hi => ?_, fun m hm => ?_, fun s hs => ?_⟩
  · by_cases e : i = 3
    · subst e; rw [e33, pu2_s]
    · rw [e3 i (by omega), pu2_n (by omega), pu2_n (by omega), pu2_n (by omega)]; exact h.1 i hi
  · rw [pu2_n (by omega), pu2_n (by omega), pu2_n (by omega)] at hm
    refine ⟨?_, fun p hp => ?_⟩
    · rw [e4, pu2_n (by omega), pu2_n (by omega), pu2_n (by omega)]; exact (h.2.1 m hm).1
    · rw [e6, pu2_n (by omega), pu2_n (by omega), pu2_n (by omega)]; exact (h.2.1 m hm).2 p hp
  · rw [pu2_s] at hs
    by_cases e : s = Y
    · subst e
      rw [e7Y, e8Y, pu2_n (by omega), pu2_n (by omega), pu2_s, pu2_n (by omega), pu2_s]
      exact ⟨rfl, rfl⟩
    · rw [e7 s e, e8 s e, pu2_n (by omega), pu2_n (by omega), pu2_n (by omega), pu2_n (by omega), pu2_n (by omega), pu2_n (by omega)]
      exact h.2.2 s (by omega)
theorem body_saying {t : Nat → Nat} {L i : Nat} {π : Nat → Nat → Nat} (hT : TXB t L) (hi : i ≤ L) (hV : VP π) (h8 : π 0 3 < 8) (hP0 : π 0 0 ≠ 0) : ∃ g j e π2, g ≤ 3 ∧ (i ≤ e ∧ e ≤ L) ∧ VP π2 ∧ BD fX8_readSaying fX11_takeSaying t L π i g j e π2 := by
  obtain ⟨g1, j1, e1, v1, a1, b1, d1, c1, m1⟩ := num (t := t) (L := L) (i := i) 0 4 hT hi (by decide) (by decide)
  obtain ⟨g2, j2, e2, v2, a2, b2, d2, c2, m2⟩ := num (t := t) (L := L) (i := e1) 1 60 hT d1.2 (by decide) (by decide)
  generalize hY : π 0 3 = Y at *
  refine ⟨cg g1 g2, cj g1 j1 j2, e2, pu2 (pu2 (pu2 π 2 Y v1) 3 Y v2) 0 3 (Y + 1), cg_3 a1 a2, by omega, ?_, fun S o φ h3 hR hC => ?_, fun T hR hP => ⟨fun hg => ?_, fun hg => ?_⟩⟩
  · obtain ⟨w0, w1, w2, w3, w4, w5⟩ := hV
    have ne : ∀ a b, ¬ (a = 0 ∧ b = 3) → ¬ (a = 2 ∧ b = Y) → ¬ (a = 3 ∧ b = Y) → pu2 (pu2 (pu2 π 2 Y v1) 3 Y v2) 0 3 (Y + 1) a b = π a b := fun a b h1 h2 h3 => by rw [pu2_n h1, pu2_n h3, pu2_n h2]
    refine ⟨w0, w1, w2, fun m hm => ?_, ⟨by rw [pu2_s]; omega, fun s hs => ?_⟩, fun z => absurd z hP0⟩
    · rw [ne 1 m (by omega) (by omega) (by omega)]
      exact ⟨(w3 m hm).1, fun p hp => by rw [ne (4 + m) p (by omega) (by omega) (by omega)]; exact (w3 m hm).2 p hp⟩
    · rw [pu2_s] at hs
      by_cases e : s = Y
      · subst e
        rw [pu2_n (by omega), pu2_n (by omega), pu2_s, pu2_n (by omega), pu2_s]
        omega
      · rw [ne 2 s (by omega) (by omega) (by omega), ne 3 s (by omega) (by omega) (by omega)]
        exact w4.2 s (by omega)
  · obtain ⟨S1, x1, r1, f1⟩ := c1 S φ h3 hR
    have x1 : fX8_readNumber (0 : Int32) (4 : Int32) S = some (nI v1, S1) := x1
    obtain ⟨S2, x2, r2, f2⟩ := c2 (wr S1 7 o Y (nI v1)) (mk φ g1 j1) (mk_3 h3 a1) (r1.wo (by omega))
    have x2 : fX8_readNumber (1 : Int32) (60 : Int32) (wr S1 7 o Y (nI v1)) = some (nI v2, S2) := x2
    have h33 : S 3 o 3 = nI Y := by rw [← hY]; exact hC.1 3 (by decide)
    have g3 : S2 3 o = S 3 o := by rw [f2 3 o (by unfold c10; omega), wr_other (by omega), f1 3 o (by unfold c10; omega)]
    have g4 : S2 4 o = S 4 o := by rw [f2 4 o (by unfold c10; omega), wr_other (by omega), f1 4 o (by unfold c10; omega)]
    have g6 : ∀ q, S2 6 q = S 6 q := fun q => by rw [f2 6 q (by unfold c10; omega), wr_other (by omega), f1 6 q (by unfold c10; omega)]
    have g8 : S2 8 o = S 8 o := by rw [f2 8 o (by unfold c10; omega), wr_other (by omega), f1 8 o (by unfold c10; omega)]
    have g7 : S2 7 o = wr S1 7 o Y (nI v1) 7 o := f2 7 o (by unfold c10; omega)
    refine ⟨wr (wr S2 8 o Y (nI v2)) 3 o 3 (nI (Y + 1)), ?_, ?_, ?_, ?_⟩
    · unfold fX8_readSaying
      rw [bi_e, h33, cal_of x1, ck_nI (show Y < 8 by omega) (by omega), bs_e, nI_clamp (by omega), cal_of x2, ck_nI (show Y < 8 by omega) (by omega), bs_e, bs_e, nI_1]
    · rw [← mk_mk]; exact (r2.wo (by omega)).wo (by omega)
    · exact ((((c10_P o f1).wr (by unfold cP; omega)).tr (c10_P o f2)).wr (by unfold cP; omega)).wr (by unfold cP; omega)
    · refine hC.wsay (S2 := S2) hY (fun x hx => ?_) (wr_same _ _ _ _ _) ?_ (fun q => ?_) (fun x hx => ?_) ?_ (fun x hx => ?_) ?_
      · rw [wr_i (by omega), wr_i (by omega), g3]
      · rw [wr_other (by omega), wr_other (by omega), g4]
      · rw [wr_other (by omega), wr_other (by omega), g6]
      · rw [wr_i (by omega), wr_i (by omega), g7, wr_i (by omega), f1 7 o (by unfold c10; omega)]
      · rw [wr_i (by omega), wr_i (by omega), g7, wr_same]
      · rw [wr_i (by omega), wr_i (by omega), g8]
      · rw [wr_i (by omega), wr_same]
  · obtain ⟨z1, z2⟩ := cg_z hg
    obtain ⟨T1, y1, r1, n1, f1⟩ := (m1 T hR).1 z1
    have y1 : fX11_takeNumber (0 : Int32) (4 : Int32) T = some (0, T1) := y1
    obtain ⟨T2, y2, r2, n2, f2⟩ := (m2 (wr T1 49 0 Y (nI v1)) (r1.wo (by omega))).1 z2
    have y2 : fX11_takeNumber (1 : Int32) (60 : Int32) (wr T1 49 0 Y (nI v1)) = some (0, T2) := y2
    have k1 : T1 35 0 28 = nI Y := by rw [f1.2 28 (by unfold x3; omega), hP.2.2.2.1, hY]
    have k2 : T2 35 0 28 = nI Y := by rw [f2.2 28 (by unfold x3; omega), wr_i (by omega)]; exact k1
    refine ⟨wr (wr T2 50 0 Y (nI v2)) 35 0 28 (nI (Y + 1)), ?_, (r2.wo (by omega)).wx (by omega), ?_, (((f1.r3.wo (by unfold cR; omega) (by omega)).tr f2.r3).wo (by unfold cR; omega) (by omega)).wx (Or.inl ⟨rfl, rfl⟩) (by unfold x5; omega)⟩
    · unfold fX11_takeSaying
      rw [cal_of y1, if_pos (by decide), k1, ck_nI (show Y < 8 by omega) (by omega), bs_e, nI_clamp (by omega), n1, cal_of y2, k2, ck_nI (show Y < 8 by omega) (by omega), bs_e, bs_e, nI_clamp (by omega), n2, wr_i (by omega), k2, nI_1]
    · obtain ⟨w0, w1, w2, w3, w4, w5⟩ := hP.fr f1
      have ne : ∀ a b, ¬ (a = 0 ∧ b = 3) → ¬ (a = 2 ∧ b = Y) → ¬ (a = 3 ∧ b = Y) → pu2 (pu2 (pu2 π 2 Y v1) 3 Y v2) 0 3 (Y + 1) a b = π a b := fun a b h1 h2 h3 => by rw [pu2_n h1, pu2_n h3, pu2_n h2]
      have fx : ∀ x, 23 ≤ x → x ≠ 28 → wr (wr T2 50 0 Y (nI v2)) 35 0 28 (nI (Y + 1)) 35 0 x = T1 35 0 x := fun x h1 h2 => by
        rw [wr_i (by omega), wr_i (by omega), f2.2 x (by unfold x3; omega), wr_i (by omega)]
      have fo : ∀ a, a = 47 ∨ a = 48 → wr (wr T2 50 0 Y (nI v2)) 35 0 28 (nI (Y + 1)) a 0 = T1 a 0 := fun a h => by
        rw [wr_other (by omega), wr_other (by omega), f2.1 a 0 (by unfold c35; omega), wr_other (by omega)]
      refine ⟨by rw [fx 23 (by omega) (by omega), ne 0 0 (by omega) (by omega) (by omega)]; exact w0, by rw [fx 24 (by omega) (by omega), ne 0 1 (by omega) (by omega) (by omega)]; exact w1, by rw [fx 25 (by omega) (by omega), ne 0 2 (by omega) (by omega) (by omega)]; exact w2, by rw [wr_same, pu2_s], fun m hm => ?_, fun s hs => ?_⟩
      · rw [ne 0 2 (by omega) (by omega) (by omega)] at hm
        rw [fo 47 (by omega), fo 48 (by omega), ne 1 m (by omega) (by omega) (by omega)]
        exact ⟨(w4 m hm).1, fun p hp => by rw [ne (4 + m) p (by omega) (by omega) (by omega)]; exact (w4 m hm).2 p hp⟩
      · rw [pu2_s] at hs
        have h49 : wr (wr T2 50 0 Y (nI v2)) 35 0 28 (nI (Y + 1)) 49 0 s = wr T1 49 0 Y (nI v1) 49 0 s := by
          rw [wr_i (by omega), wr_i (by omega), f2.1 49 0 (by unfold c35; omega)]
        by_cases e : s = Y
        · subst e
          rw [h49, wr_same, wr_i (by omega), wr_same, pu2_n (by omega), pu2_n (by omega), pu2_s, pu2_n (by omega), pu2_s]
          exact ⟨rfl, rfl⟩
        · rw [h49, wr_i (by omega), wr_i (by omega), wr_i (by omega), f2.1 50 0 (by unfold c35; omega), wr_i (by omega), ne 2 s (by omega) (by omega) (by omega), ne 3 s (by omega) (by omega) (by omega)]
          exact w5 s (by omega)
  · by_cases z1 : g1 = 0
    · subst z1
      rw [cg_0] at hg ⊢
      rw [cj_0]
      obtain ⟨T1, y1, r1, n1, f1⟩ := (m1 T hR).1 rfl
      have y1 : fX11_takeNumber (0 : Int32) (4 : Int32) T = some (0, T1) := y1
      obtain ⟨T2, y2, n2, f2⟩ := (m2 (wr T1 49 0 Y (nI v1)) (r1.wo (by omega))).2 hg
      have y2 : fX11_takeNumber (1 : Int32) (60 : Int32) (wr T1 49 0 Y (nI v1)) = some (nI g2, T2) := y2
      have k1 : T1 35 0 28 = nI Y := by rw [f1.2 28 (by unfold x3; omega), hP.2.2.2.1, hY]
      have k2 : T2 35 0 28 = nI Y := by rw [f2.2 28 (by unfold x4; omega), wr_i (by omega)]; exact k1
      refine ⟨wr (wr T2 50 0 Y (T2 35 0 21)) 35 0 28 (nI (Y + 1)), ?_, by rw [wr_i (by omega), wr_i (by omega)]; exact n2, (((f1.r3.r5.wo (by unfold cR; omega) (by omega)).tr f2.r4).wo (by unfold cR; omega) (by omega)).wx (Or.inl ⟨rfl, rfl⟩) (by unfold x6; omega)⟩
      unfold fX11_takeSaying
      rw [cal_of y1, if_pos (by decide), k1, ck_nI (show Y < 8 by omega) (by omega), bs_e, nI_clamp (by omega), n1, cal_of y2, k2, ck_nI (show Y < 8 by omega) (by omega), bs_e, bs_e, nI_clamp (by omega), wr_i (by omega), k2, nI_1]
    · rw [cg_n z1, cj_n z1]
      obtain ⟨T1, y1, n1, f1⟩ := (m1 T hR).2 z1
      have y1 : fX11_takeNumber (0 : Int32) (4 : Int32) T = some (nI g1, T1) := y1
      refine ⟨T1, ?_, n1, f1.r4⟩
      unfold fX11_takeSaying
      rw [cal_of y1, if_neg (nI_nle (by omega) (by omega))]
