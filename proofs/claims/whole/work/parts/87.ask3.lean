theorem a0 (x : Nat) : nI x + (0 : Int32) = nI x := by rw [show (0 : Int32) = nI 0 from rfl, nI_add]; rfl
theorem m_ask50 {S : St} {s a : Nat} {P : Nat → Bool} {h : Nat → Nat} {kk : Int32 → Op} (hs : s < 8) (ha : a < 61) (hP : ∀ n, n < 61 → S 57 0 n = bI (P n)) (hh : ∀ n, n < 61 → S 58 0 (8 * n + s) = nI (h n)) (hb : ∀ n, h n < 2 ^ 31) : lop (fun _ _ => none) (bX11_ask_50 S (nI s) (nI a) kk) FU (0 : Int32) (0 : Int32) = kk (nI (if P a = true then cnt P h (h a) 61 else 0)) := by
  refine lopA (i0 := 0) (N := 61) (fun b => nI (if P a = true then cnt P h (h a) b else 0)) (fun b _ hb2 ag => ?_) (fun ag => ?_) (by decide) (by decide) rfl ?_
  · unfold bX11_ask_50
    rw [if_neg (l60 hb2), ck_nI ha (by omega), nI_clamp (show a < 2 ^ 31 by omega), hP a ha, nI_1]
    cases pa : P a
    · rw [bI_f, if_pos rfl, bi_e, a0]
      rfl
    · rw [bI_t, if_neg n10, ck_nI hb2 (by omega), nI_clamp (show b < 2 ^ 31 by omega), hP b hb2]
      show _ = ag _ (nI (if true = true then cnt P h (h a) b + (if P b = true ∧ h b = h a then 1 else 0) else 0))
      rw [if_pos rfl, if_pos rfl]
      cases pb : P b
      · rw [bI_f, if_pos rfl, bi_e, a0, if_neg (fun z => absurd z.1 (by decide))]
        first | done | rfl
      · rw [bI_t, if_neg n10, show (8 : Int32) = nI 8 from rfl, pk_mul, pk_mul, nI_add, nI_add, ck_nI (show 8 * a + s < 488 by omega) (by omega), ck_nI (show 8 * b + s < 488 by omega) (by omega), nI_clamp (show 8 * a + s < 2 ^ 31 by omega), nI_clamp (show 8 * b + s < 2 ^ 31 by omega), hh a ha, hh b hb2]
        by_cases e : h b = h a
        · rw [if_pos (congrArg nI e.symm), if_pos ⟨rfl, e⟩, bi_e, nI_1]
        · rw [if_neg (fun z => e (nI_inj (hb a) (hb b) z).symm), if_neg (fun z => e z.2), bi_e, a0]
          first | done | rfl
  · unfold bX11_ask_50
    rw [if_pos (show (60 : Int32) < nI 61 by decide)]
  · show nI (if P a = true then 0 else 0) = 0
    split <;> rfl
theorem mst_s (P : Nat → Bool) (h : Nat → Nat) (N n : Nat) : mst P h N (n + 1) = if P n = true then max (mst P h N n) (cnt P h (h n) N) else mst P h N n := rfl
theorem m_ask37 {S : St} {s : Nat} {P : Nat → Bool} {h : Nat → Nat} {kk : Int32 → Op} (hs : s < 8) (hP : ∀ n, n < 61 → S 57 0 n = bI (P n)) (hh : ∀ n, n < 61 → S 58 0 (8 * n + s) = nI (h n)) (hb : ∀ n, h n < 2 ^ 31) : lop (fun _ _ => none) (bX11_ask_37 S (nI s) kk) FU (0 : Int32) (0 : Int32) = kk (nI (mst P h 61 61)) := by
  have cb : ∀ v, cnt P h v 61 ≤ 61 := fun v => Nat.le_trans (cnt_le P h v 61) (ntn_le P 61)
  refine lopA (i0 := 0) (N := 61) (fun a => nI (mst P h 61 a)) (fun a _ ha ag => ?_) (fun ag => ?_) (by decide) (by decide) rfl rfl
  · have mb := mst_le P h (N := 61) (b := 61) (fun n _ _ => cb _) a (by omega)
    have c1 := cb (h a)
    unfold bX11_ask_37
    rw [if_neg (l60 ha), jn_e, m_ask50 hs ha hP hh hb, nI_1, mst_s]
    cases pa : P a
    · rw [if_neg (show ¬ false = true by decide), if_neg (show ¬ false = true by decide), if_pos (nI_le (by omega) (by omega))]
    · rw [if_pos rfl, if_pos rfl]
      by_cases q : cnt P h (h a) 61 ≤ mst P h 61 a
      · rw [if_pos (nI_le q (by omega)), Nat.max_eq_left q]
      · rw [if_neg (nI_ge (by omega) (by omega)), Nat.max_eq_right (by omega)]
  · unfold bX11_ask_37
    rw [if_pos (show (60 : Int32) < nI 61 by decide)]
theorem m_ask {S : St} {m H : Nat} {π d : Nat → Nat → Nat} (hP : MP S π) (hE : EM S H d) (hVE : VE π H d) (hV : VP π) (hm : m < π 0 2) : ∃ S2, fX11_ask (nI m) S = some (bp (fun s => grt (pf π d m H) (hf π m s) 61) (ntn (pf π d m H) 61) (π 0 3), S2) ∧ Fr (fun a _ => a = 51 ∨ a = 52 ∨ a = 57 ∨ a = 58) S S2 := by
  have hMn : π 0 2 ≤ 6 := hV.2.2.1
  have hY := hV.2.2.2.2.1.1
  obtain ⟨S2, e2, f2, g2⟩ := m_lays hP hE hVE hV hm
  refine ⟨S2, ?_, f2⟩
  unfold fX11_ask
  rw [cal_of (m_man1 hP.2.2.1 hMn ⟨m, hm, rfl⟩), if_neg n10, cal_of e2, jn_e]
  have nb := ntn_le (pf π d m H) 61
  refine lopAA (i0 := 0) (N := π 0 3) (bp (fun s => grt (pf π d m H) (hf π m s) 61) (ntn (pf π d m H) 61)) (fun i => nI (lo (fun s => grt (pf π d m H) (hf π m s) 61) (ntn (pf π d m H) 61) i)) (fun s _ hs ag => ?_) (fun ag => ?_) (Nat.zero_le _) (by rw [FU_eq]; omega) rfl rfl rfl
  · have b1 := lo_le (fun s => grt (pf π d m H) (hf π m s) 61) (ntn (pf π d m H) 61) s
    have b2 := grt_b (pf π d m H) (hf π m s) 61
    unfold bX11_ask_22
    rw [f2 35 0 (by omega), hP.2.2.2.1, if_neg (nI_ge hs (by omega)), jn_e, m_ask37 (P := pf π d m H) (h := hf π m s) (show s < 8 by omega) (fun n hn => (g2 n hn).1) (fun n hn => (g2 n hn).2 s hs) (fun n => by have := hf_le hV hm hs n; omega), grt_mst, jn_e, nI_1, lo_s, bp_s]
    try dsimp only
    by_cases h : grt (pf π d m H) (hf π m s) 61 < lo (fun s => grt (pf π d m H) (hf π m s) 61) (ntn (pf π d m H) 61) s
    · rw [if_pos h, if_pos h, if_neg (nI_ge h (by omega))]
      try dsimp only
      rw [if_neg (nI_ge h (by omega))]
    · rw [if_neg h, if_neg h, if_pos (nI_le (by omega) (by omega))]
      try dsimp only
      rw [if_pos (nI_le (by omega) (by omega))]
  · unfold bX11_ask_22
    rw [f2 35 0 (by omega), hP.2.2.2.1, if_pos (nI_le (Nat.le_refl _) (by omega))]
theorem same_ask (a : Int32) : Same (fX10_ask a) (fX11_ask a) := by
  rintro S ⟨q, π, ν, us, im, d, fa, hC, hM, hV⟩
  have hk := hC.k
  have hMn : π 0 2 ≤ 6 := hV.1.2.2.1
  by_cases ha : isB a (π 0 2)
  · obtain ⟨m, hm, rfl⟩ := id ha
    obtain ⟨S2, e2, f2, g2⟩ := c_ask (d := d) (H := q 2) hk hC.2.1 hC.2.2.2.2.2.1 hV.2.2.2.2.1 hV.1 hm
    refine same_ch hM e2 (fun a ha => kind_of f2 (fun o => by unfold acC trC paC; omega)) (hC.fr20 hMn (f2.mono (fun a o h => by unfold acC trC paC at h; unfold scC; omega)) g2) hV (fun S0 hM0 => ?_)
    obtain ⟨T2, x2, y2⟩ := m_ask (d := d) (H := q 2) hM0.1 hM0.2.2.2.2.1 hV.2.2.2.2.1 hV.1 hm
    exact ⟨T2, x2, hM0.fr (y2.mono (fun a o h => by unfold scM; omega)), fun a ha => kind_of y2 (fun o => by omega)⟩
  · refine same_no (r := -1000000001) hC hM hV ?_ (fun S0 h0 => ?_)
    · unfold fX10_ask
      rw [hk, cal_of (c_man0 (hC.2.1.1 2 (by decide)) hMn ha), if_pos rfl]
    · unfold fX11_ask
      rw [cal_of (m_man0 h0.1.2.2.1 hMn ha), if_pos rfl]
