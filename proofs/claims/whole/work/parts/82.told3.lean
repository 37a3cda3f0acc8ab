def tx (v : Nat → Int32) : Nat → Nat
  | 0 => 0
  | k + 1 => if v (tx v k) < v k then k else tx v k
theorem tx_lt (v : Nat → Int32) : ∀ k, 0 < k → tx v k < k
  | 0, h => by omega
  | k + 1, _ => by
    unfold tx
    split
    · omega
    · rcases Nat.eq_zero_or_pos k with rfl | h
      · show (0 : Nat) < 1
        decide
      · have := tx_lt v k h; omega
theorem tx_1 (v : Nat → Int32) : tx v 1 = 0 := by
  show (if v 0 < v 0 then 0 else 0) = 0
  split <;> rfl
theorem tx_s (v : Nat → Int32) (k : Nat) : tx v (k + 1) = if v (tx v k) < v k then k else tx v k := rfl
def tv (ν : Nat → Nat → Nat) (k : Nat) : Int32 := nI (ν (k / 5 + 1) (2 + k % 5)) - nI (ν (k / 5 + 1) (7 + k % 5))
def TA (ν : Nat → Nat → Nat) (z : Int32) (k : Nat) : Int32 := if k = 0 then z else tv ν (tx (tv ν) k)
def TB (ν : Nat → Nat → Nat) (k : Nat) : Int32 := if k = 0 then -1 else nI (10 * (tx (tv ν) k / 5) + tx (tv ν) k % 5)
theorem TA_s (ν : Nat → Nat → Nat) (z : Int32) (k : Nat) : TA ν z (k + 1) = if k = 0 then tv ν 0 else if TA ν z k < tv ν k then tv ν k else TA ν z k := by
  unfold TA
  rw [if_neg (by omega)]
  by_cases h : k = 0
  · subst h; rw [if_pos rfl, tx_1]
  · rw [if_neg h, if_neg h, tx_s]
    split <;> rfl
theorem TB_s (ν : Nat → Nat → Nat) (z : Int32) (k : Nat) : TB ν (k + 1) = if k = 0 then nI 0 else if TA ν z k < tv ν k then nI (10 * (k / 5) + k % 5) else TB ν k := by
  unfold TA TB
  rw [if_neg (show ¬ k + 1 = 0 by omega)]
  by_cases h : k = 0
  · subst h; rw [if_pos rfl, tx_1]
  · rw [if_neg h, if_neg h, if_neg h, tx_s]
    split <;> rfl
theorem nI_m1 {k : Nat} (h : k < 2 ^ 31) : ¬ nI k = (-1 : Int32) := fun z => by have := nI_pos h; rw [z] at this; exact this (by decide)
theorem TB_ne (ν : Nat → Nat → Nat) {k : Nat} (h : k ≠ 0) (hk : k ≤ 30) : ¬ TB ν k = (-1 : Int32) := by
  unfold TB
  rw [if_neg h]
  have := tx_lt (tv ν) k (by omega)
  exact nI_m1 (by omega)
theorem c_tin {S : St} {k i : Nat} {π ν : Nat → Nat → Nat} {kk : Int32 → Int32 → Op} (hN : CN S k (π 0 2) (π 1) ν) (hV : VP π) (hi : i < π 0 2) : lop (fun _ _ _ => none) (bX7_tender_20 S (nI i) kk) FU (0 : Int32) (TA ν 0 (5 * i)) (TB ν (5 * i)) = kk (TA ν 0 (5 * (i + 1))) (TB ν (5 * (i + 1))) := by
  have hM := hV.2.2.1
  refine lopAA (i0 := 0) (N := 5) (fun p => TA ν 0 (5 * i + p)) (fun p => TB ν (5 * i + p)) (fun p _ hp ag => ?_) (fun ag => ?_) (by decide) (by decide) rfl rfl rfl
  · have g := (hN.2.2 i hi).2.2.2 p hp
    have e : tv ν (5 * i + p) = nI (ν (i + 1) (2 + p)) - nI (ν (i + 1) (7 + p)) := by
      unfold tv
      rw [show (5 * i + p) / 5 = i by omega, show (5 * i + p) % 5 = p by omega]
    unfold bX7_tender_20
    rw [if_neg (l5 hp), ck_nI (show i < 6 by omega) (by omega), ck_nI hp (by omega), ck_nI (show i < 6 by omega) (by omega), ck_nI hp (by omega), nI_clamp (show i < 2 ^ 31 by omega), nI_clamp (show p < 2 ^ 31 by omega), g.1, g.2, ← e, bi_e, jn_e, show (10 : Int32) = nI 10 from rfl, pk_mul, nI_add, bi_e, nI_1, show 5 * i + (p + 1) = 5 * i + p + 1 from rfl, TA_s, TB_s ν 0, show (5 * i + p) / 5 = i by omega, show (5 * i + p) % 5 = p by omega]
    by_cases h0 : 5 * i + p = 0
    · have hi0 : i = 0 := by omega
      have hp0 : p = 0 := by omega
      subst hi0; subst hp0
      rfl
    · rw [if_neg h0, if_neg h0, if_neg (TB_ne ν h0 (by omega))]
      by_cases h : TA ν 0 (5 * i + p) < tv ν (5 * i + p)
      · rw [if_pos h, if_pos h, if_neg (Int32.not_le.mpr h)]
      · rw [if_neg h, if_neg h, if_pos (Int32.not_lt.mp h)]
  · unfold bX7_tender_20
    rw [if_pos (show ((5 : Int32) ≤ nI 5) from by decide)]
    rfl
theorem c_tender {S : St} {k : Nat} {π ν : Nat → Nat → Nat} (hC : CP S k π) (hN : CN S k (π 0 2) (π 1) ν) (hV : VP π) : fX7_tender S = some (TB ν (5 * π 0 2), S) := by
  have hM := hV.2.2.1
  unfold fX7_tender
  rw [jn_e]
  refine lopAA (i0 := 0) (N := π 0 2) (fun i => TA ν 0 (5 * i)) (fun i => TB ν (5 * i)) (fun i _ hi ag => ?_) (fun ag => ?_) (Nat.zero_le _) (by rw [FU_eq]; omega) rfl rfl rfl
  · unfold bX7_tender_6
    rw [hN.1, hC.1 2 (by decide), if_neg (nI_ge hi (by omega)), jn_e, c_tin hN hV hi, nI_1]
  · unfold bX7_tender_6
    rw [hN.1, hC.1 2 (by decide), if_pos (nI_le (Nat.le_refl _) (by omega))]
theorem tv_0 : ∀ a, a ≤ 30 → ∀ b, b ≤ 99 → ¬ (nI a - nI b ≤ (-1000000 : Int32)) := by decide +kernel
theorem m_tender {S : St} {π ν : Nat → Nat → Nat} (hC : MP S π) (hN : MN (S 40 0) (π 0 2) ν) (hV : VP π) (hW : VN (π 0 2) ν) : fX11_tender S = some (TB ν (5 * π 0 2), S) := by
  have hM := hV.2.2.1
  unfold fX11_tender
  rw [jn_e]
  refine lopAA (i0 := 0) (N := 5 * π 0 2) (TA ν (-1000000)) (TB ν) (fun i _ hi ag => ?_) (fun ag => ?_) (Nat.zero_le _) (by rw [FU_eq]; omega) rfl rfl rfl
  · have g := (hN.2.2.2.2 (i / 5) (by omega)).2 (i % 5) (by omega)
    have w := (hW.2.2.2 (i / 5) (by omega)).2.2 (i % 5) (by omega)
    rw [show 4 + 5 * (i / 5) + i % 5 = 4 + i by omega, show 34 + 5 * (i / 5) + i % 5 = 34 + i by omega] at g
    have e : tv ν i = nI (ν (i / 5 + 1) (2 + i % 5)) - nI (ν (i / 5 + 1) (7 + i % 5)) := rfl
    unfold bX11_tender_7
    rw [hC.2.2.1, show (5 : Int32) = nI 5 from rfl, pk_mul, if_neg (nI_ge hi (by omega)), show (4 : Int32) = nI 4 from rfl, show (34 : Int32) = nI 34 from rfl, nI_add, nI_add, ck_nI (show 4 + i < 70 by omega) (by omega), ck_nI (show 34 + i < 70 by omega) (by omega), bi_e, nI_clamp (show 4 + i < 2 ^ 31 by omega), nI_clamp (show 34 + i < 2 ^ 31 by omega), g.1, g.2, ← e, jn_e, idiv_nI (by omega) (by decide) (by decide), irm_nI (by omega) (by decide) (by decide), show (10 : Int32) = nI 10 from rfl, pk_mul, nI_add, nI_1, TA_s, TB_s ν (-1000000)]
    try dsimp only
    by_cases h0 : i = 0
    · subst h0
      have hn : ¬ (tv ν 0 ≤ TA ν (-1000000) 0) := by
        show ¬ (tv ν 0 ≤ (-1000000 : Int32))
        rw [e]
        exact tv_0 _ w.1 _ w.2
      rw [if_neg hn, if_pos rfl, if_pos rfl]
      try dsimp only
      rw [if_neg hn]
    · rw [if_neg h0, if_neg h0]
      by_cases h : TA ν (-1000000) i < tv ν i
      · rw [if_pos h, if_pos h, if_neg (Int32.not_le.mpr h)]
        try dsimp only
        rw [if_neg (Int32.not_le.mpr h)]
      · rw [if_neg h, if_neg h, if_pos (Int32.not_lt.mp h)]
        try dsimp only
        rw [if_pos (Int32.not_lt.mp h)]
  · unfold bX11_tender_7
    rw [hC.2.2.1, show (5 : Int32) = nI 5 from rfl, pk_mul, if_pos (nI_le (Nat.le_refl _) (by omega))]
theorem same_told (a : Int32) : Same (fX10_told a) (fX11_told a) := by
  refine same_ro (fun S q π ν us im d fa hC hV => ?_)
  have hk := hC.k
  obtain ⟨h0, h1, h2, h3, h4, h5, h6, h7, h8, h9⟩ := id hC
  by_cases e0 : a = 0
  · subst e0
    refine ⟨nI (π 0 0), ?_, fun S0 hM => ⟨S0, ?_, Fr.rf⟩⟩
    · unfold fX10_told
      rw [if_pos rfl, hk, h1.1 0 (by decide)]
    · unfold fX11_told
      rw [if_pos rfl, hM.1.1]
  by_cases e1 : a = 1
  · subst e1
    refine ⟨nI (ν 0 1), ?_, fun S0 hM => ⟨S0, ?_, Fr.rf⟩⟩
    · unfold fX10_told
      rw [if_neg (show ¬ (1 : Int32) = 0 by decide), if_pos rfl, show S 9 0 2 = nI (ν 0 1) from h2.2.1 1 (by decide)]
    · unfold fX11_told
      rw [if_neg (show ¬ (1 : Int32) = 0 by decide), if_pos rfl, show (1 : Int32) = nI 1 from rfl, ck_nI (show 1 < 70 by decide) (by decide), nI_clamp (by decide), hM.2.1.2.1]
  by_cases e2 : a = 2
  · subst e2
    refine ⟨nI (π 0 2), ?_, fun S0 hM => ⟨S0, ?_, Fr.rf⟩⟩
    · unfold fX10_told
      rw [if_neg (show ¬ (2 : Int32) = 0 by decide), if_neg (show ¬ (2 : Int32) = 1 by decide), if_pos rfl, hk, h1.1 2 (by decide)]
    · unfold fX11_told
      rw [if_neg (show ¬ (2 : Int32) = 0 by decide), if_neg (show ¬ (2 : Int32) = 1 by decide), if_pos rfl, hM.1.2.2.1]
  by_cases e3 : a = 3
  · subst e3
    refine ⟨nI (π 0 3), ?_, fun S0 hM => ⟨S0, ?_, Fr.rf⟩⟩
    · unfold fX10_told
      rw [if_neg (show ¬ (3 : Int32) = 0 by decide), if_neg (show ¬ (3 : Int32) = 1 by decide), if_neg (show ¬ (3 : Int32) = 2 by decide), if_pos rfl, hk, h1.1 3 (by decide)]
    · unfold fX11_told
      rw [if_neg (show ¬ (3 : Int32) = 0 by decide), if_neg (show ¬ (3 : Int32) = 1 by decide), if_neg (show ¬ (3 : Int32) = 2 by decide), if_pos rfl, hM.1.2.2.2.1]
  by_cases e4 : a = 4
  · subst e4
    refine ⟨nI (q 0), ?_, fun S0 hM => ⟨S0, ?_, Fr.rf⟩⟩
    · unfold fX10_told
      rw [if_neg (show ¬ (4 : Int32) = 0 by decide), if_neg (show ¬ (4 : Int32) = 1 by decide), if_neg (show ¬ (4 : Int32) = 2 by decide), if_neg (show ¬ (4 : Int32) = 3 by decide), if_pos rfl, h3.1]
    · unfold fX11_told
      rw [if_neg (show ¬ (4 : Int32) = 0 by decide), if_neg (show ¬ (4 : Int32) = 1 by decide), if_neg (show ¬ (4 : Int32) = 2 by decide), if_neg (show ¬ (4 : Int32) = 3 by decide), if_pos rfl, hM.2.2.1.1]
  by_cases e5 : a = 5
  · subst e5
    refine ⟨nI (ν 0 0), ?_, fun S0 hM => ⟨S0, ?_, Fr.rf⟩⟩
    · unfold fX10_told
      rw [if_neg (show ¬ (5 : Int32) = 0 by decide), if_neg (show ¬ (5 : Int32) = 1 by decide), if_neg (show ¬ (5 : Int32) = 2 by decide), if_neg (show ¬ (5 : Int32) = 3 by decide), if_neg (show ¬ (5 : Int32) = 4 by decide), if_pos rfl, show S 9 0 1 = nI (ν 0 0) from h2.2.1 0 (by decide)]
    · unfold fX11_told
      rw [if_neg (show ¬ (5 : Int32) = 0 by decide), if_neg (show ¬ (5 : Int32) = 1 by decide), if_neg (show ¬ (5 : Int32) = 2 by decide), if_neg (show ¬ (5 : Int32) = 3 by decide), if_neg (show ¬ (5 : Int32) = 4 by decide), if_pos rfl, show (0 : Int32) = nI 0 from rfl, ck_nI (show 0 < 70 by decide) (by decide), nI_clamp (by decide), hM.2.1.1]
  by_cases e6 : a = 6
  · subst e6
    refine ⟨nI (ins ν (π 0 2)), ?_, fun S0 hM => ⟨S0, ?_, Fr.rf⟩⟩
    · unfold fX10_told
      rw [if_neg (show ¬ (6 : Int32) = 0 by decide), if_neg (show ¬ (6 : Int32) = 1 by decide), if_neg (show ¬ (6 : Int32) = 2 by decide), if_neg (show ¬ (6 : Int32) = 3 by decide), if_neg (show ¬ (6 : Int32) = 4 by decide), if_neg (show ¬ (6 : Int32) = 5 by decide), if_pos rfl, cal_of (c_setInside h1 h2 hV.1 hV.2.1.1)]
    · unfold fX11_told
      rw [if_neg (show ¬ (6 : Int32) = 0 by decide), if_neg (show ¬ (6 : Int32) = 1 by decide), if_neg (show ¬ (6 : Int32) = 2 by decide), if_neg (show ¬ (6 : Int32) = 3 by decide), if_neg (show ¬ (6 : Int32) = 4 by decide), if_neg (show ¬ (6 : Int32) = 5 by decide), if_pos rfl, show (2 : Int32) = nI 2 from rfl, ck_nI (show 2 < 70 by decide) (by decide), nI_clamp (by decide), show S0 40 0 2 = nI (ins ν (π 0 2)) from hM.2.1.2.2.1]
  by_cases e7 : a = 7
  · subst e7
    refine ⟨nI (ν 0 2), ?_, fun S0 hM => ⟨S0, ?_, Fr.rf⟩⟩
    · unfold fX10_told
      rw [if_neg (show ¬ (7 : Int32) = 0 by decide), if_neg (show ¬ (7 : Int32) = 1 by decide), if_neg (show ¬ (7 : Int32) = 2 by decide), if_neg (show ¬ (7 : Int32) = 3 by decide), if_neg (show ¬ (7 : Int32) = 4 by decide), if_neg (show ¬ (7 : Int32) = 5 by decide), if_neg (show ¬ (7 : Int32) = 6 by decide), if_pos rfl, show S 9 0 3 = nI (ν 0 2) from h2.2.1 2 (by decide)]
    · unfold fX11_told
      rw [if_neg (show ¬ (7 : Int32) = 0 by decide), if_neg (show ¬ (7 : Int32) = 1 by decide), if_neg (show ¬ (7 : Int32) = 2 by decide), if_neg (show ¬ (7 : Int32) = 3 by decide), if_neg (show ¬ (7 : Int32) = 4 by decide), if_neg (show ¬ (7 : Int32) = 5 by decide), if_neg (show ¬ (7 : Int32) = 6 by decide), if_pos rfl, show (3 : Int32) = nI 3 from rfl, ck_nI (show 3 < 70 by decide) (by decide), nI_clamp (by decide), hM.2.1.2.2.2.1]
  by_cases e8 : a = 8
  · subst e8
    refine ⟨nI (sm (fun m => ν (m + 1) 1) (π 0 2)), ?_, fun S0 hM => ⟨S0, ?_, Fr.rf⟩⟩
    · unfold fX10_told
      rw [if_neg (show ¬ (8 : Int32) = 0 by decide), if_neg (show ¬ (8 : Int32) = 1 by decide), if_neg (show ¬ (8 : Int32) = 2 by decide), if_neg (show ¬ (8 : Int32) = 3 by decide), if_neg (show ¬ (8 : Int32) = 4 by decide), if_neg (show ¬ (8 : Int32) = 5 by decide), if_neg (show ¬ (8 : Int32) = 6 by decide), if_neg (show ¬ (8 : Int32) = 7 by decide), if_pos rfl, cal_of (c_allWounds h1 h2 hV.1)]
    · unfold fX11_told
      rw [if_neg (show ¬ (8 : Int32) = 0 by decide), if_neg (show ¬ (8 : Int32) = 1 by decide), if_neg (show ¬ (8 : Int32) = 2 by decide), if_neg (show ¬ (8 : Int32) = 3 by decide), if_neg (show ¬ (8 : Int32) = 4 by decide), if_neg (show ¬ (8 : Int32) = 5 by decide), if_neg (show ¬ (8 : Int32) = 6 by decide), if_neg (show ¬ (8 : Int32) = 7 by decide), if_pos rfl, cal_of (m_woundsAll hM.1 hM.2.1 hV.1)]
  by_cases e9 : a = 9
  · subst e9
    refine ⟨if π 0 2 = 0 then -1 else nI (thin (wp π ν) (π 0 2)), ?_, fun S0 hM => ?_⟩
    · unfold fX10_told
      rw [if_neg (show ¬ (9 : Int32) = 0 by decide), if_neg (show ¬ (9 : Int32) = 1 by decide), if_neg (show ¬ (9 : Int32) = 2 by decide), if_neg (show ¬ (9 : Int32) = 3 by decide), if_neg (show ¬ (9 : Int32) = 4 by decide), if_neg (show ¬ (9 : Int32) = 5 by decide), if_neg (show ¬ (9 : Int32) = 6 by decide), if_neg (show ¬ (9 : Int32) = 7 by decide), if_neg (show ¬ (9 : Int32) = 8 by decide), if_pos rfl, cal_of (c_best h1 h2 hV.1 hV.2.1.1)]
    · obtain ⟨S2, e2, f2⟩ := m_best hM.1 hM.2.1 hV.1 hV.2.1.1
      refine ⟨S2, ?_, f2.mono (fun a o h => by omega)⟩
      unfold fX11_told
      rw [if_neg (show ¬ (9 : Int32) = 0 by decide), if_neg (show ¬ (9 : Int32) = 1 by decide), if_neg (show ¬ (9 : Int32) = 2 by decide), if_neg (show ¬ (9 : Int32) = 3 by decide), if_neg (show ¬ (9 : Int32) = 4 by decide), if_neg (show ¬ (9 : Int32) = 5 by decide), if_neg (show ¬ (9 : Int32) = 6 by decide), if_neg (show ¬ (9 : Int32) = 7 by decide), if_neg (show ¬ (9 : Int32) = 8 by decide), if_pos rfl, cal_of e2]
  by_cases e10 : a = 10
  · subst e10
    refine ⟨chs (fun m => vts π ν m (π 0 3)) (π 0 2), ?_, fun S0 hM => ?_⟩
    · unfold fX10_told
      rw [if_neg (show ¬ (10 : Int32) = 0 by decide), if_neg (show ¬ (10 : Int32) = 1 by decide), if_neg (show ¬ (10 : Int32) = 2 by decide), if_neg (show ¬ (10 : Int32) = 3 by decide), if_neg (show ¬ (10 : Int32) = 4 by decide), if_neg (show ¬ (10 : Int32) = 5 by decide), if_neg (show ¬ (10 : Int32) = 6 by decide), if_neg (show ¬ (10 : Int32) = 7 by decide), if_neg (show ¬ (10 : Int32) = 8 by decide), if_neg (show ¬ (10 : Int32) = 9 by decide), if_pos rfl, cal_of (c_chosen h1 h2 hV.1 hV.2.1.1)]
    · obtain ⟨S2, e2, f2⟩ := m_chosen hM.1 hM.2.1 hV.1 hV.2.1.1
      refine ⟨S2, ?_, f2.mono (fun a o h => by omega)⟩
      unfold fX11_told
      rw [if_neg (show ¬ (10 : Int32) = 0 by decide), if_neg (show ¬ (10 : Int32) = 1 by decide), if_neg (show ¬ (10 : Int32) = 2 by decide), if_neg (show ¬ (10 : Int32) = 3 by decide), if_neg (show ¬ (10 : Int32) = 4 by decide), if_neg (show ¬ (10 : Int32) = 5 by decide), if_neg (show ¬ (10 : Int32) = 6 by decide), if_neg (show ¬ (10 : Int32) = 7 by decide), if_neg (show ¬ (10 : Int32) = 8 by decide), if_neg (show ¬ (10 : Int32) = 9 by decide), if_pos rfl, cal_of e2]
  by_cases e11 : a = 11
  · subst e11
    refine ⟨TB ν (5 * π 0 2), ?_, fun S0 hM => ⟨S0, ?_, Fr.rf⟩⟩
    · unfold fX10_told
      rw [if_neg (show ¬ (11 : Int32) = 0 by decide), if_neg (show ¬ (11 : Int32) = 1 by decide), if_neg (show ¬ (11 : Int32) = 2 by decide), if_neg (show ¬ (11 : Int32) = 3 by decide), if_neg (show ¬ (11 : Int32) = 4 by decide), if_neg (show ¬ (11 : Int32) = 5 by decide), if_neg (show ¬ (11 : Int32) = 6 by decide), if_neg (show ¬ (11 : Int32) = 7 by decide), if_neg (show ¬ (11 : Int32) = 8 by decide), if_neg (show ¬ (11 : Int32) = 9 by decide), if_neg (show ¬ (11 : Int32) = 10 by decide), if_pos rfl, cal_of (c_tender h1 h2 hV.1)]
    · unfold fX11_told
      rw [if_neg (show ¬ (11 : Int32) = 0 by decide), if_neg (show ¬ (11 : Int32) = 1 by decide), if_neg (show ¬ (11 : Int32) = 2 by decide), if_neg (show ¬ (11 : Int32) = 3 by decide), if_neg (show ¬ (11 : Int32) = 4 by decide), if_neg (show ¬ (11 : Int32) = 5 by decide), if_neg (show ¬ (11 : Int32) = 6 by decide), if_neg (show ¬ (11 : Int32) = 7 by decide), if_neg (show ¬ (11 : Int32) = 8 by decide), if_neg (show ¬ (11 : Int32) = 9 by decide), if_neg (show ¬ (11 : Int32) = 10 by decide), if_pos rfl, cal_of (m_tender hM.1 hM.2.1 hV.1 hV.2.1.1)]
  by_cases e12 : a = 12
  · subst e12
    refine ⟨nI (q 2), ?_, fun S0 hM => ⟨S0, ?_, Fr.rf⟩⟩
    · unfold fX10_told
      rw [if_neg (show ¬ (12 : Int32) = 0 by decide), if_neg (show ¬ (12 : Int32) = 1 by decide), if_neg (show ¬ (12 : Int32) = 2 by decide), if_neg (show ¬ (12 : Int32) = 3 by decide), if_neg (show ¬ (12 : Int32) = 4 by decide), if_neg (show ¬ (12 : Int32) = 5 by decide), if_neg (show ¬ (12 : Int32) = 6 by decide), if_neg (show ¬ (12 : Int32) = 7 by decide), if_neg (show ¬ (12 : Int32) = 8 by decide), if_neg (show ¬ (12 : Int32) = 9 by decide), if_neg (show ¬ (12 : Int32) = 10 by decide), if_neg (show ¬ (12 : Int32) = 11 by decide), if_pos rfl, h5.1]
    · unfold fX11_told
      rw [if_neg (show ¬ (12 : Int32) = 0 by decide), if_neg (show ¬ (12 : Int32) = 1 by decide), if_neg (show ¬ (12 : Int32) = 2 by decide), if_neg (show ¬ (12 : Int32) = 3 by decide), if_neg (show ¬ (12 : Int32) = 4 by decide), if_neg (show ¬ (12 : Int32) = 5 by decide), if_neg (show ¬ (12 : Int32) = 6 by decide), if_neg (show ¬ (12 : Int32) = 7 by decide), if_neg (show ¬ (12 : Int32) = 8 by decide), if_neg (show ¬ (12 : Int32) = 9 by decide), if_neg (show ¬ (12 : Int32) = 10 by decide), if_neg (show ¬ (12 : Int32) = 11 by decide), if_pos rfl, hM.2.2.2.2.1.1]
  by_cases e13 : a = 13
  · subst e13
    refine ⟨nI (q 3), ?_, fun S0 hM => ⟨S0, ?_, Fr.rf⟩⟩
    · unfold fX10_told
      rw [if_neg (show ¬ (13 : Int32) = 0 by decide), if_neg (show ¬ (13 : Int32) = 1 by decide), if_neg (show ¬ (13 : Int32) = 2 by decide), if_neg (show ¬ (13 : Int32) = 3 by decide), if_neg (show ¬ (13 : Int32) = 4 by decide), if_neg (show ¬ (13 : Int32) = 5 by decide), if_neg (show ¬ (13 : Int32) = 6 by decide), if_neg (show ¬ (13 : Int32) = 7 by decide), if_neg (show ¬ (13 : Int32) = 8 by decide), if_neg (show ¬ (13 : Int32) = 9 by decide), if_neg (show ¬ (13 : Int32) = 10 by decide), if_neg (show ¬ (13 : Int32) = 11 by decide), if_neg (show ¬ (13 : Int32) = 12 by decide), if_pos rfl, h6.1]
    · unfold fX11_told
      rw [if_neg (show ¬ (13 : Int32) = 0 by decide), if_neg (show ¬ (13 : Int32) = 1 by decide), if_neg (show ¬ (13 : Int32) = 2 by decide), if_neg (show ¬ (13 : Int32) = 3 by decide), if_neg (show ¬ (13 : Int32) = 4 by decide), if_neg (show ¬ (13 : Int32) = 5 by decide), if_neg (show ¬ (13 : Int32) = 6 by decide), if_neg (show ¬ (13 : Int32) = 7 by decide), if_neg (show ¬ (13 : Int32) = 8 by decide), if_neg (show ¬ (13 : Int32) = 9 by decide), if_neg (show ¬ (13 : Int32) = 10 by decide), if_neg (show ¬ (13 : Int32) = 11 by decide), if_neg (show ¬ (13 : Int32) = 12 by decide), if_pos rfl, hM.2.2.2.2.2.1.1]
  by_cases e14 : a = 14
  · subst e14
    refine ⟨nI (q 4), ?_, fun S0 hM => ⟨S0, ?_, Fr.rf⟩⟩
    · unfold fX10_told
      rw [if_neg (show ¬ (14 : Int32) = 0 by decide), if_neg (show ¬ (14 : Int32) = 1 by decide), if_neg (show ¬ (14 : Int32) = 2 by decide), if_neg (show ¬ (14 : Int32) = 3 by decide), if_neg (show ¬ (14 : Int32) = 4 by decide), if_neg (show ¬ (14 : Int32) = 5 by decide), if_neg (show ¬ (14 : Int32) = 6 by decide), if_neg (show ¬ (14 : Int32) = 7 by decide), if_neg (show ¬ (14 : Int32) = 8 by decide), if_neg (show ¬ (14 : Int32) = 9 by decide), if_neg (show ¬ (14 : Int32) = 10 by decide), if_neg (show ¬ (14 : Int32) = 11 by decide), if_neg (show ¬ (14 : Int32) = 12 by decide), if_neg (show ¬ (14 : Int32) = 13 by decide), if_pos rfl, h7.2.2.1]
    · unfold fX11_told
      rw [if_neg (show ¬ (14 : Int32) = 0 by decide), if_neg (show ¬ (14 : Int32) = 1 by decide), if_neg (show ¬ (14 : Int32) = 2 by decide), if_neg (show ¬ (14 : Int32) = 3 by decide), if_neg (show ¬ (14 : Int32) = 4 by decide), if_neg (show ¬ (14 : Int32) = 5 by decide), if_neg (show ¬ (14 : Int32) = 6 by decide), if_neg (show ¬ (14 : Int32) = 7 by decide), if_neg (show ¬ (14 : Int32) = 8 by decide), if_neg (show ¬ (14 : Int32) = 9 by decide), if_neg (show ¬ (14 : Int32) = 10 by decide), if_neg (show ¬ (14 : Int32) = 11 by decide), if_neg (show ¬ (14 : Int32) = 12 by decide), if_neg (show ¬ (14 : Int32) = 13 by decide), if_pos rfl, hM.2.2.2.2.2.2.1.1]
  refine ⟨-1000000002, ?_, fun S0 hM => ⟨S0, ?_, Fr.rf⟩⟩
  · unfold fX10_told
    rw [if_neg e0, if_neg e1, if_neg e2, if_neg e3, if_neg e4, if_neg e5, if_neg e6, if_neg e7, if_neg e8, if_neg e9, if_neg e10, if_neg e11, if_neg e12, if_neg e13, if_neg e14]
  · unfold fX11_told
    rw [if_neg e0, if_neg e1, if_neg e2, if_neg e3, if_neg e4, if_neg e5, if_neg e6, if_neg e7, if_neg e8, if_neg e9, if_neg e10, if_neg e11, if_neg e12, if_neg e13, if_neg e14]
