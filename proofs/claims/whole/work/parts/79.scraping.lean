def nd (π : Nat → Nat → Nat) (so th : Nat → Nat) (a p : Nat) : Nat → Nat
  | 0 => 0
  | s + 1 => if a.testBit s = true ∧ π 2 s = p then max (nd π so th a p s) (pn π so th s - 5) else nd π so th a p s
theorem nd_le {π : Nat → Nat → Nat} {so th : Nat → Nat} {a p : Nat} (hV : VY π) (hS : VS so th) : ∀ n, n ≤ π 0 3 → nd π so th a p n ≤ 90
  | 0, _ => Nat.zero_le _
  | n + 1, h => by
    have h1 := nd_le (a := a) (p := p) hV hS n (by omega)
    have h2 := pn_le hV (show n < π 0 3 by omega) hS
    unfold nd
    split
    · omega
    · exact h1
def sm (f : Nat → Nat) : Nat → Nat
  | 0 => 0
  | n + 1 => sm f n + f n
theorem sm_le {f : Nat → Nat} {b : Nat} : ∀ n, (∀ i, i < n → f i ≤ b) → sm f n ≤ b * n
  | 0, _ => Nat.zero_le _
  | n + 1, h => by
    have h1 := sm_le n (fun i hi => h i (by omega))
    have h2 := h n (by omega)
    show sm f n + f n ≤ b * (n + 1)
    rw [Nat.mul_succ]
    omega
theorem s5_neg {v : Nat} (h : v < 5) : nI v - (5 : Int32) < 0 := pk_sneg (a := v) (b := 5) (by decide) h
theorem s5_le {v x : Nat} (hv : v < 2 ^ 20) (hx : x < 2 ^ 20) : (nI v - (5 : Int32) ≤ nI x) ↔ v - 5 ≤ x := by
  by_cases h : v < 5
  · have h1 := s5_neg h
    constructor
    · intro _; omega
    · intro _; exact Int32.le_trans (Int32.le_of_lt h1) (nI_pos' (by omega))
  · rw [show (5 : Int32) = nI 5 from rfl, pk_sub (show 5 ≤ v by omega), nI_leI (by omega) (by omega)]
theorem s5_max {v x : Nat} (hv : v < 2 ^ 20) (hx : x < 2 ^ 20) : imax (nI x) (nI v - (5 : Int32)) = nI (max x (v - 5)) := by
  by_cases h : v < 5
  · have h1 := s5_neg h
    unfold imax
    rw [if_neg (fun z => Int32.lt_irrefl (Int32.lt_of_le_of_lt (nI_pos' (show x < 2 ^ 31 by omega)) (Int32.lt_trans z h1))), Nat.sub_eq_zero_of_le (by omega), Nat.max_eq_left (Nat.zero_le _)]
  · rw [show (5 : Int32) = nI 5 from rfl, pk_sub (show 5 ≤ v by omega), imax_nI (by omega) (by omega)]
theorem c_scrapingAt {S : St} {k o a p : Nat} {π : Nat → Nat → Nat} {so th : Nat → Nat} (hC : CY S k π) (hV : VY π) (hK : SkC S o so th) (hS : VS so th) (ha : a < 256) (hp : p < 5) : fX6_scrapingAt k o (nI a) (nI p) S = some (nI (nd π so th a p (π 0 3)), S) := by
  have hY := hV.1
  unfold fX6_scrapingAt
  rw [jn_e]
  refine lopAS (i0 := 0) (N := π 0 3) (fun i => nI (nd π so th a p i)) (fun _ => S) (fun i _ hi ag => ?_) (fun ag => ?_) (Nat.zero_le _) (by rw [FU_eq]; omega) rfl rfl rfl
  · have hpn := pn_le hV hi hS
    have hn := nd_le (a := a) (p := p) hV hS i (by omega)
    have h2 := hV.2 i hi
    unfold bX6_scrapingAt_6
    rw [hC.1, if_neg (nI_ge hi (by omega)), bit_sh a ha i (by omega), nI_1]
    show _ = ag _ (nI (if a.testBit i = true ∧ π 2 i = p then _ else _)) S
    by_cases hb : a.testBit i = true
    · rw [if_pos hb, if_pos rfl, ck_nI (show i < 8 by omega) (by omega), nI_clamp (by omega), (hC.2 i hi).1]
      by_cases hpl : π 2 i = p
      · rw [if_pos (congrArg nI hpl), if_pos ⟨hb, hpl⟩, cal_of (c_pain hC hV hK hS hi), bi_e, s5_max (by omega) (by omega)]
      · rw [if_neg (fun z => hpl (nI_inj (by omega) (by omega) z)), if_neg (fun z => hpl z.2)]
    · rw [if_neg hb, if_neg n01, if_neg (fun z => hb z.1)]
  · unfold bX6_scrapingAt_6
    rw [hC.1, if_pos (nI_le (Nat.le_refl _) (by omega))]
theorem m_scrapingAt {S : St} {a p : Nat} {π : Nat → Nat → Nat} {so th : Nat → Nat} {kk : Int32 → St → Op} (hC : MY S π) (hV : VY π) (hK : SkM S so th) (hS : VS so th) (ha : a < 256) (hp : p < 5) : lop (fun _ _ _ => none) (bX11_scraping_41 (nI a) (nI p) kk) FU (0 : Int32) (0 : Int32) S = kk (nI (nd π so th a p (π 0 3))) S := by
  have hY := hV.1
  refine lopAS (i0 := 0) (N := π 0 3) (fun i => nI (nd π so th a p i)) (fun _ => S) (fun i _ hi ag => ?_) (fun ag => ?_) (Nat.zero_le _) (by rw [FU_eq]; omega) rfl rfl rfl
  · have hpn := pn_le hV hi hS
    have hn := nd_le (a := a) (p := p) hV hS i (by omega)
    have h2 := hV.2 i hi
    have hh := m_hurts hC hV hK hS hi
    unfold bX11_scraping_41
    rw [hC.1, if_neg (nI_ge hi (by omega)), cal_of (m_has ha (by omega)), jn_e]
    try dsimp only
    rw [jn_e]
    try dsimp only
    rw [nI_1, if_pos rfl]
    show _ = ag _ (nI (if a.testBit i = true ∧ π 2 i = p then _ else _)) S
    by_cases hb : a.testBit i = true
    · rw [if_pos hb, if_neg n10, ck_nI (show i < 8 by omega) (by omega), nI_clamp (by omega), (hC.2 i hi).1]
      by_cases hpl : π 2 i = p
      · rw [if_pos (congrArg nI hpl), if_pos ⟨hb, hpl⟩, cal_of hh]
        by_cases hm : pn π so th i - 5 ≤ nd π so th a p i
        · rw [if_pos ((s5_le (by omega) (by omega)).mpr hm), Nat.max_eq_left hm, if_pos rfl]
        · rw [if_neg (fun z => hm ((s5_le (by omega) (by omega)).mp z)), if_neg n10, cal_of hh, bi_e, Nat.max_eq_right (by omega), show (5 : Int32) = nI 5 from rfl, pk_sub (by omega)]
      · rw [if_neg (fun z => hpl (nI_inj (by omega) (by omega) z)), if_neg (fun z => hpl z.2)]
    · rw [if_neg hb, if_pos rfl, if_neg (fun z => hb z.1)]
  · unfold bX11_scraping_41
    rw [hC.1, if_pos (nI_le (Nat.le_refl _) (by omega))]
theorem same_scraping (a b : Int32) : Same (fX10_scraping a b) (fX11_scraping a b) := by
  refine same_ro (fun S q π ν us im d fa hC hV => ?_)
  have hk := hC.k
  have hMn : π 0 2 ≤ 6 := hV.1.2.2.1
  have hY : π 0 3 ≤ 8 := hV.1.2.2.2.2.1.1
  by_cases ha : isB a (π 0 2)
  · by_cases hb : isSet b (π 0 3)
    · obtain ⟨m, hm, rfl⟩ := id ha
      obtain ⟨x, hx, rfl⟩ := id hb
      have hS := hV.2.1.1.vs hm
      have hvy := hV.1.2.2.2.2.1
      have p8 : 2 ^ π 0 3 ≤ 2 ^ 8 := Nat.pow_le_pow_right (by decide) hY
      have hsk := hC.2.2.1.sk hm
      have hmk : ∀ S0, IM S0 q π ν us im d fa → ∀ p, p < 5 → S0 40 0 (4 + 5 * m + p) = nI (ν (m + 1) (2 + p)) ∧ S0 40 0 (34 + 5 * m + p) = nI (ν (m + 1) (7 + p)) := fun S0 hM p hp => (hM.2.1.2.2.2.2 m hm).2 p hp
      generalize hso : (fun p => ν (m + 1) (2 + p)) = so at *
      generalize hT : (fun p => ν (m + 1) (7 + p)) = th at *
      obtain ⟨n, n1, n2, n3⟩ := first_of (fun p => so p < nd π so th x p (π 0 3)) 5
      have hnd := fun p => nd_le (a := x) (p := p) hvy hS (π 0 3) (Nat.le_refl _)
      have hsm : ∀ i, i ≤ 5 → sm (fun p => nd π so th x p (π 0 3)) i ≤ 450 := fun i hi => by
        have := sm_le (f := fun p => nd π so th x p (π 0 3)) (b := 90) i (fun j _ => hnd j)
        omega
      refine ⟨if n < 5 then -1 else nI (sm (fun p => nd π so th x p (π 0 3)) 5), ?_, fun S0 hM => ?_⟩
      · have e : fX6_leastScraping (q 7) m (nI x) S = some (if n < 5 then -1 else nI (sm (fun p => nd π so th x p (π 0 3)) 5), S) := by
          unfold fX6_leastScraping
          rw [jn_e]
          refine lopAS (i0 := 0) (N := n) (fun i => nI (sm (fun p => nd π so th x p (π 0 3)) i)) (fun _ => S) (fun i _ hi ag => ?_) (fun ag => ?_) (Nat.zero_le _) (by rw [FU_eq]; omega) rfl rfl rfl
          · have := n2 i hi
            have := hnd i
            have := (hS i (by omega)).1
            unfold bX6_leastScraping_5
            rw [if_neg (l5 (by omega)), cal_of (c_scrapingAt hC.2.1.cy hvy hsk hS (show x < 256 by omega) (show i < 5 by omega)), ck_nI (show i < 5 by omega) (by omega), nI_clamp (by omega), (hsk i (by omega)).1, if_pos (nI_le (by omega) (by omega)), bi_e, nI_add, nI_1]
            rfl
          · unfold bX6_leastScraping_5
            by_cases h5 : n < 5
            · have := n3 h5
              have := hnd n
              have := (hS n (by omega)).1
              rw [if_neg (l5 h5), cal_of (c_scrapingAt hC.2.1.cy hvy hsk hS (show x < 256 by omega) h5), ck_nI h5 (by omega), nI_clamp (by omega), (hsk n h5).1, if_neg (nI_ge (by omega) (by omega)), if_pos h5]
            · have h5 : n = 5 := by omega
              subst h5
              rw [if_pos (show ((5 : Int32) ≤ nI 5) from by decide), if_neg (by decide)]
        unfold fX10_scraping
        rw [hk, cal_of (c_man1 (hC.2.1.1 2 (by decide)) hMn ha), if_neg n10, hk, cal_of (c_set1 (hC.2.1.1 3 (by decide)) hY hb), if_neg n10, ck_nI (show m < 6 by omega) (by omega), hk, nI_clamp (by omega), cal_of e]
      · obtain ⟨T1, x1, y1, y2⟩ := m_takesSkin (S := S0) (show m < 6 by omega)
        have k1 : SkM T1 so th := fun p hp => by
          rw [(y2 p hp).1, (y2 p hp).2, ← hso, ← hT]; exact hmk S0 hM p hp
        have my := hM.1.my.frt y1
        refine ⟨T1, ?_, y1.mono (fun a o h => by omega)⟩
        unfold fX11_scraping
        rw [cal_of (m_man1 hM.1.2.2.1 hMn ha), if_neg n10, cal_of (m_set1 hM.1.2.2.2.1 hY hb), if_neg n10, cal_of x1, jn_e]
        refine lopAS (i0 := 0) (N := n) (fun i => nI (sm (fun p => nd π so th x p (π 0 3)) i)) (fun _ => T1) (fun i _ hi ag => ?_) (fun ag => ?_) (Nat.zero_le _) (by rw [FU_eq]; omega) rfl rfl rfl
        · have := n2 i hi
          have := hnd i
          have := (hS i (by omega)).1
          unfold bX11_scraping_29
          rw [if_neg (l5 (by omega)), jn_e, m_scrapingAt my hvy k1 hS (show x < 256 by omega) (show i < 5 by omega), ck_nI (show i < 5 by omega) (by omega), nI_clamp (by omega), (k1 i (by omega)).1, if_pos (nI_le (by omega) (by omega)), bi_e, nI_add, nI_1]
          rfl
        · unfold bX11_scraping_29
          by_cases h5 : n < 5
          · have := n3 h5
            have := hnd n
            have := (hS n (by omega)).1
            rw [if_neg (l5 h5), jn_e, m_scrapingAt my hvy k1 hS (show x < 256 by omega) h5, ck_nI h5 (by omega), nI_clamp (by omega), (k1 n h5).1, if_neg (nI_ge (by omega) (by omega)), if_pos h5]
          · have h5 : n = 5 := by omega
            subst h5
            rw [if_pos (show ((5 : Int32) ≤ nI 5) from by decide), if_neg (by decide)]
    · refine ⟨-1000000001, ?_, fun S0 hM => ⟨S0, ?_, Fr.rf⟩⟩
      · unfold fX10_scraping
        rw [hk, cal_of (c_man1 (hC.2.1.1 2 (by decide)) hMn ha), if_neg n10, hk, cal_of (c_set0 (hC.2.1.1 3 (by decide)) hY hb), if_pos rfl]
      · unfold fX11_scraping
        rw [cal_of (m_man1 hM.1.2.2.1 hMn ha), if_neg n10, cal_of (m_set0 hM.1.2.2.2.1 hY hb), if_pos rfl]
  · refine ⟨-1000000001, ?_, fun S0 hM => ⟨S0, ?_, Fr.rf⟩⟩
    · unfold fX10_scraping
      rw [hk, cal_of (c_man0 (hC.2.1.1 2 (by decide)) hMn ha), if_pos rfl]
    · unfold fX11_scraping
      rw [cal_of (m_man0 hM.1.2.2.1 hMn ha), if_pos rfl]
