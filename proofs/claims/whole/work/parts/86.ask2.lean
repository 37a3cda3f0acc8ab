def paC (a o : Nat) : Prop := a = 24 ∨ a = 25 ∨ a = 26 ∨ (a = 20 ∧ o = 0)
theorem l8 {i : Nat} (h : i < 8) : ¬ ((8 : Int32) ≤ nI i) := nI_ge h (by decide)
theorem c_clearParts {S : St} : ∃ S1, fX2_clearParts S = some (0, S1) ∧ Fr paC S S1 ∧ (∀ j, j ≠ 4 → S1 20 0 j = S 20 0 j) ∧ S1 20 0 4 = nI 0 ∧ ∀ s, s < 8 → S1 24 0 s = -1 ∧ S1 26 0 s = nI 0 := by
  have fin := lopSK (i0 := 0) (N := 8) (z := fun _ _ => none) (b := bX2_clearParts_7) (x := 0) (S := wr S 20 0 4 0)
    (fun i S1 => Fr paC S S1 ∧ (∀ j, j ≠ 4 → S1 20 0 j = S 20 0 j) ∧ S1 20 0 4 = nI 0 ∧ ∀ s, s < i → S1 24 0 s = -1 ∧ S1 26 0 s = nI 0) ?hs ?he (by decide) (by decide) rfl ⟨Fr.rf.wr (by unfold paC; omega), fun j hj => wr_i (by omega), wr_same _ _ _ _ _, fun s h => by omega⟩
  case hs =>
    intro i S1 _ hi ⟨h1, h2, h3, h4⟩
    refine ⟨wr (wr S1 24 0 i (-1)) 26 0 i (nI 0), ⟨(h1.wr (by unfold paC; omega)).wr (by unfold paC; omega), fun j hj => by rw [wr_i (by omega), wr_i (by omega)]; exact h2 j hj, by rw [wr_i (by omega), wr_i (by omega)]; exact h3, fun s hs => ?_⟩, fun kk ag => ?_⟩
    · rcases (show s < i ∨ s = i by omega) with q | rfl
      · rw [wr_i (by omega), wr_i (by omega), wr_i (by omega), wr_i (by omega)]; exact h4 s q
      · rw [wr_i (by omega), wr_same, wr_same]; exact ⟨rfl, rfl⟩
    · unfold bX2_clearParts_7
      rw [if_neg (l8 hi), ck_nI hi (by omega), bs_e, ck_nI hi (by omega), bs_e, nI_clamp (by omega), nI_1]
      rfl
  case he =>
    intro S1 h kk ag
    unfold bX2_clearParts_7
    rw [if_pos (show ((8 : Int32) ≤ nI 8) from by decide)]
  obtain ⟨S2, ⟨h1, h2, h3, h4⟩, e⟩ := fin
  refine ⟨S2, ?_, h1, h2, h3, h4⟩
  unfold fX2_clearParts
  rw [bs_e, jn_e, e]
theorem c_part {S : St} {k n : Nat} {π : Nat → Nat → Nat} {so th c g : Nat → Nat} (hC : CY S k π) (hV : VY π) (hK : SkC S 6 so th) (hS : VS so th) (h4 : S 20 0 4 = nI n) (hc : ∀ s, s < π 0 3 → (if nI (pn π so th s) = S 24 0 s then S 25 0 s + 1 else 1) = nI (c s)) (hg : ∀ s, s < π 0 3 → S 26 0 s = nI (g s)) (hcb : ∀ s, s < π 0 3 → c s < 2 ^ 31) (hgb : ∀ s, s < π 0 3 → g s < 2 ^ 31) : ∃ S2, fX2_part k 6 S = some (0, S2) ∧ Fr paC S S2 ∧ (∀ j, j ≠ 4 → S2 20 0 j = S 20 0 j) ∧ S2 20 0 4 = nI (n + 1) ∧ ∀ s, s < π 0 3 → S2 24 0 s = nI (pn π so th s) ∧ S2 25 0 s = nI (c s) ∧ S2 26 0 s = nI (max (g s) (c s)) := by
  have hY := hV.1
  have fin := lopSK (i0 := 0) (N := π 0 3) (z := fun _ _ => none) (b := bX2_part_12 k 6) (x := 0) (S := wr S 20 0 4 (nI (n + 1)))
    (fun i S1 => Fr paC S S1 ∧ (∀ j, j ≠ 4 → S1 20 0 j = S 20 0 j) ∧ S1 20 0 4 = nI (n + 1) ∧ (∀ s, s < i → S1 24 0 s = nI (pn π so th s) ∧ S1 25 0 s = nI (c s) ∧ S1 26 0 s = nI (max (g s) (c s))) ∧ ∀ s, i ≤ s → S1 24 0 s = S 24 0 s ∧ S1 25 0 s = S 25 0 s ∧ S1 26 0 s = S 26 0 s) ?hs ?he (Nat.zero_le _) (by rw [FU_eq]; omega) rfl ⟨Fr.rf.wr (by unfold paC; omega), fun j hj => wr_i (by omega), wr_same _ _ _ _ _, fun s h => by omega, fun s _ => ⟨wr_i (by omega), wr_i (by omega), wr_i (by omega)⟩⟩
  case hs =>
    intro i S1 _ hi ⟨h1, h2, h3, h5, h6⟩
    have cy : CY S1 k π := by unfold CY; rw [h1 3 k (by unfold paC; omega), h1 7 k (by unfold paC; omega), h1 8 k (by unfold paC; omega)]; exact hC
    have sk : SkC S1 6 so th := fun p hp => by rw [h1 12 6 (by unfold paC; omega), h1 13 6 (by unfold paC; omega)]; exact hK p hp
    obtain ⟨u1, u2, u3⟩ := h6 i (Nat.le_refl _)
    have hci := hc i hi
    rw [← u1, ← u2] at hci
    refine ⟨wr (wr (wr S1 25 0 i (nI (c i))) 24 0 i (nI (pn π so th i))) 26 0 i (nI (max (g i) (c i))), ⟨((h1.wr (by unfold paC; omega)).wr (by unfold paC; omega)).wr (by unfold paC; omega), fun j hj => by rw [wr_i (by omega), wr_i (by omega), wr_i (by omega)]; exact h2 j hj, by rw [wr_i (by omega), wr_i (by omega), wr_i (by omega)]; exact h3, fun s hs => ?_, fun s hs => ?_⟩, fun kk ag => ?_⟩
    · rcases (show s < i ∨ s = i by omega) with q | rfl
      · simp (disch := omega) only [wr_i]; exact h5 s q
      · simp (disch := omega) only [wr_i, wr_same, and_self]
    · simp (disch := omega) only [wr_i]; exact h6 s (by omega)
    · have key : ∀ j56 : Int32 → Op, (if nI (pn π so th i) = S1 24 0 i then ck (nI i) 8 (j56 (S1 25 0 i + 1)) else j56 1) = j56 (nI (c i)) := by
        intro j56
        rw [← hci, ck_nI (show i < 8 by omega) (by omega)]
        split <;> rfl
      unfold bX2_part_12
      rw [cy.1, if_neg (nI_ge hi (by omega)), cal_of (c_pain cy hV sk hS hi), ck_nI (show i < 8 by omega) (by omega), jn_e, nI_clamp (by omega), nI_1]
      refine (key (fun (v0_56 : Int32) => ck (nI i) 8 <| bs (wr S1 25 0 i v0_56) fun S_56 => ck (nI i) 8 <| bs (wr S_56 24 0 i (nI (pn π so th i))) fun S_64 => ck (nI i) 8 <| ck (nI i) 8 <| ck (nI i) 8 <| bs (wr S_64 26 0 i (imax (S_64 26 0 i) (S_64 25 0 i))) fun S_85 => ag (nI (i + 1)) S_85)).trans ?_
      try dsimp only
      rw [ck_nI (show i < 8 by omega) (by omega), bs_e, ck_nI (show i < 8 by omega) (by omega), bs_e, ck_nI (show i < 8 by omega) (by omega), ck_nI (show i < 8 by omega) (by omega), ck_nI (show i < 8 by omega) (by omega), bs_e, wr_i (a2 := 26) (by omega), wr_i (a2 := 26) (by omega), wr_i (a2 := 25) (by omega), wr_same, u3, hg i hi, imax_nI (hgb i hi) (hcb i hi)]
  case he =>
    intro S1 ⟨h1, _⟩ kk ag
    unfold bX2_part_12
    rw [h1 3 k (by unfold paC; omega), hC.1, if_pos (nI_le (Nat.le_refl _) (by omega))]
  obtain ⟨S2, ⟨h1, h2, h3, h5, -⟩, e⟩ := fin
  refine ⟨S2, ?_, h1, h2, h3, h5⟩
  unfold fX2_part
  rw [bs_e, jn_e, h4, nI_1, e]
theorem c_bestParting {S : St} {Y N : Nat} {f : Nat → Nat} (hY : Y ≤ 8) (hN : S 20 0 4 = nI N) (hNb : N < 2 ^ 30) (hf : ∀ s, s < Y → S 26 0 s = nI (f s)) (hfb : ∀ s, s < Y → f s < 2 ^ 30) : fX2_bestParting (nI Y) S = some (bp f N Y, S) := by
  unfold fX2_bestParting
  rw [bi_e, jn_e, hN]
  refine lopAA (i0 := 0) (N := Y) (fun i => nI (lo f N i)) (bp f N) (fun i _ hi ag => ?_) (fun ag => ?_) (Nat.zero_le _) (by rw [FU_eq]; omega) rfl rfl rfl
  · have b1 := lo_le f N i
    have b2 := hfb i hi
    unfold bX2_bestParting_10
    rw [if_neg (nI_ge hi (by omega)), ck_nI (show i < 8 by omega) (by omega), nI_clamp (by omega), hf i hi, ck_nI (show i < 8 by omega) (by omega), bi_e, nI_1, lo_s, bp_s]
    by_cases h : f i < lo f N i
    · rw [if_pos h, if_pos h, if_neg (nI_ge h (by omega))]
    · rw [if_neg h, if_neg h, if_pos (nI_le (by omega) (by omega))]
  · unfold bX2_bestParting_10
    rw [if_pos (nI_le (Nat.le_refl _) (by omega))]
theorem IC.fr20 {S S1 : St} {q : Nat → Nat} {π ν : Nat → Nat → Nat} {us im : Nat → Nat → Nat → Nat} {d : Nat → Nat → Nat} {fa : Int32} (h : IC S q π ν us im d fa) (hM : π 0 2 ≤ 6) (f : Fr (fun a o => scC a o ∨ (a = 20 ∧ o = 0)) S S1) (g : S1 20 0 3 = S 20 0 3) : IC S1 q π ν us im d fa := by
  have f2 : Fr scC S (fun a o => if a = 20 ∧ o = 0 then S 20 0 else S1 a o) := by
    intro a o h
    by_cases e : a = 20 ∧ o = 0
    · show (if a = 20 ∧ o = 0 then S 20 0 else S1 a o) = S a o
      rw [if_pos e, e.1, e.2]
    · show (if a = 20 ∧ o = 0 then S 20 0 else S1 a o) = S a o
      rw [if_neg e]
      exact f a o (fun z => z.elim h e)
  obtain ⟨h0, h1, h2, h3, h4, h5, h6, h7, h8, h9⟩ := h.fr hM f2
  exact ⟨h0, h1, h2, h3, h4, ⟨g.trans h5.1, h5.2⟩, h6, h7, h8, h9⟩
/-- the class's state on the way of ask -/
def AI (S : St) (π d : Nat → Nat → Nat) (m H i : Nat) : Prop := TC S (fun p => π (4 + m) p) (tf π m i) (π 1 m) (π 0 1) (0 + i) ∧ S 20 0 4 = nI (ntn (pf π d m H) i) ∧ ∀ s, s < π 0 3 → S 24 0 s = lv (pf π d m H) (hf π m s) i ∧ (ntn (pf π d m H) i ≠ 0 → S 25 0 s = nI (lc (pf π d m H) (hf π m s) i)) ∧ S 26 0 s = nI (grt (pf π d m H) (hf π m s) i)
def acC (a o : Nat) : Prop := trC a o ∨ paC a o
theorem c_ask {S : St} {k m H : Nat} {π d : Nat → Nat → Nat} (hk : pid (S 0 0 1) = k) (hC : CP S k π) (hE : EC S H d) (hVE : VE π H d) (hV : VP π) (hm : m < π 0 2) : ∃ S2, fX10_ask (nI m) S = some (bp (fun s => grt (pf π d m H) (hf π m s) 61) (ntn (pf π d m H) 61) (π 0 3), S2) ∧ Fr acC S S2 ∧ S2 20 0 3 = S 20 0 3 := by
  have hMn : π 0 2 ≤ 6 := hV.2.2.1
  have hvy := hV.2.2.2.2.1
  have hY := hvy.1
  have hS := hV.vf hm
  have hkd := (hV.2.2.2.1 m hm).1
  have hbk := hV.2.1
  obtain ⟨S1, e1, f1, j1, n1, z1⟩ := c_clearParts (S := S)
  have hk1 : pid (S1 0 0 1) = k := by rw [f1 0 0 (by unfold paC; omega)]; exact hk
  have cp1 : CP S1 k π := hC.fr (f1 3 _ (by unfold paC; omega)) (f1 4 _ (by unfold paC; omega)) (fun o => f1 6 o (by unfold paC; omega)) (f1 7 _ (by unfold paC; omega)) (f1 8 _ (by unfold paC; omega))
  obtain ⟨S2, e2, f2, t2, -⟩ := c_startFirst cp1 hV hm
  have fin := lopSK (i0 := 0) (N := 61) (z := fun _ _ => none) (b := bX10_ask_35 (nI m)) (x := 0) (S := S2)
    (fun i S3 => Fr acC S S3 ∧ S3 20 0 3 = S 20 0 3 ∧ AI S3 π d m H i) ?hs ?he (by decide) (by decide) rfl ⟨fun a o h => by rw [f2 a o (fun z => h (Or.inl z)), f1 a o (fun z => h (Or.inr z))], by rw [f2 20 0 (by unfold trC; omega)]; exact j1 3 (by decide), t2, by rw [f2 20 0 (by unfold trC; omega)]; exact n1, fun s hs => by rw [f2 24 0 (by unfold trC; omega), f2 26 0 (by unfold trC; omega)]; exact ⟨(z1 s (by omega)).1, fun z => absurd rfl z, (z1 s (by omega)).2⟩⟩
  case hs =>
    intro i S3 _ hi ⟨g1, g2, a1, a2, a3⟩
    have hk3 : pid (S3 0 0 1) = k := by rw [g1 0 0 (by unfold acC trC paC; omega)]; exact hk
    have ec : EC S3 H d := by unfold EC; rw [g2, g1 21 0 (by unfold acC trC paC; omega), g1 22 0 (by unfold acC trC paC; omega), g1 23 0 (by unfold acC trC paC; omega)]; exact hE
    have cy : CY S3 k π := by unfold CY; rw [g1 3 k (by unfold acC trC paC; omega), g1 7 k (by unfold acC trC paC; omega), g1 8 k (by unfold acC trC paC; omega)]; exact hC.cy
    have ca := c_agree ec hVE cy hV a1.2.1 (tf_vs hV hm i) hm
    by_cases h1 : pf π d m H i = true
    · obtain ⟨S4, e4, f4, j4, n4, z4⟩ := c_part (n := ntn (pf π d m H) i) (c := fun s => cnt (pf π d m H) (hf π m s) (hf π m s i) (i + 1)) (g := fun s => grt (pf π d m H) (hf π m s) i) cy hvy a1.2.1 (tf_vs hV hm i) a2 (fun s hs => by
          obtain ⟨u1, u2, u3⟩ := a3 s hs
          rw [u1]
          exact lc_step (pf π d m H) (hf π m s) (fun i j h => hf_anti hV hm hs i j h) (fun i => by have := hf_le hV hm hs i; omega) h1 u2) (fun s hs => (a3 s hs).2.2) (fun s hs => by have := cnt_le (pf π d m H) (hf π m s) (hf π m s i) (i + 1); have := ntn_le (pf π d m H) (i + 1); omega) (fun s hs => by have := grt_b (pf π d m H) (hf π m s) i; omega)
      have t4 : TC S4 (fun p => π (4 + m) p) (tf π m i) (π 1 m) (π 0 1) (0 + i) := by
        refine ⟨?_, fun p hp => ?_, ?_, ?_⟩
        · rw [f4 11 6 (by unfold paC; omega)]; exact a1.1
        · rw [f4 12 6 (by unfold paC; omega), f4 13 6 (by unfold paC; omega)]; exact a1.2.1 p hp
        · rw [f4 30 0 (by unfold paC; omega)]; exact a1.2.2.1
        · rw [f4 30 0 (by unfold paC; omega)]; exact a1.2.2.2
      obtain ⟨S5, e5, f5, t5, -⟩ := c_pass9 t4 (tf_vs hV hm i) hkd hbk (by omega)
      refine ⟨S5, ⟨fun a o h => ?_, ?_, t5, ?_, fun s hs => ?_⟩, fun kk ag => ?_⟩
      · rw [f5 a o (fun z => h (Or.inl z)), f4 a o (fun z => h (Or.inr z)), g1 a o h]
      · rw [f5 20 0 (by unfold trC; omega), j4 3 (by decide)]; exact g2
      · rw [f5 20 0 (by unfold trC; omega), n4, ntn_t h1]
      · rw [f5 24 0 (by unfold trC; omega), f5 25 0 (by unfold trC; omega), f5 26 0 (by unfold trC; omega)]
        obtain ⟨u1, u2, u3⟩ := z4 s hs
        rw [u1, u2, u3]
        refine ⟨?_, fun _ => ?_, ?_⟩
        · show _ = if pf π d m H i = true then nI (hf π m s i) else _
          rw [if_pos h1]
          rfl
        · show _ = nI (if pf π d m H i = true then _ else _)
          rw [if_pos h1]
        · show _ = nI (if pf π d m H i = true then _ else _)
          rw [if_pos h1]
      · unfold bX10_ask_35
        rw [if_neg (l60 hi), hk3, cal_of ca, jn_e]
        try dsimp only
        rw [show bI (agr π (fun p => π (4 + m) p) (tf π m i) d m H) = 1 from congrArg bI h1, if_neg n10, hk3, cal_of e4, cal_of e5, nI_1]
    · have h1f : pf π d m H i = false := by simpa using h1
      obtain ⟨S5, e5, f5, t5, -⟩ := c_pass9 a1 (tf_vs hV hm i) hkd hbk (by omega)
      refine ⟨S5, ⟨fun a o h => ?_, ?_, t5, ?_, fun s hs => ?_⟩, fun kk ag => ?_⟩
      · rw [f5 a o (fun z => h (Or.inl z)), g1 a o h]
      · rw [f5 20 0 (by unfold trC; omega)]; exact g2
      · rw [f5 20 0 (by unfold trC; omega), a2, ntn_f h1f]
      · rw [f5 24 0 (by unfold trC; omega), f5 25 0 (by unfold trC; omega), f5 26 0 (by unfold trC; omega), ntn_f h1f, show lv (pf π d m H) (hf π m s) (i + 1) = lv (pf π d m H) (hf π m s) i from if_neg h1, show lc (pf π d m H) (hf π m s) (i + 1) = lc (pf π d m H) (hf π m s) i from if_neg h1, show grt (pf π d m H) (hf π m s) (i + 1) = grt (pf π d m H) (hf π m s) i from if_neg h1]
        exact a3 s hs
      · unfold bX10_ask_35
        rw [if_neg (l60 hi), hk3, cal_of ca, jn_e]
        try dsimp only
        rw [show bI (agr π (fun p => π (4 + m) p) (tf π m i) d m H) = 0 from congrArg bI h1f, if_pos rfl, cal_of e5, nI_1]
  case he =>
    intro S3 _ kk ag
    unfold bX10_ask_35
    rw [if_pos (show (60 : Int32) < nI 61 by decide)]
  obtain ⟨S3, ⟨g1, g2, a1, a2, a3⟩, e3⟩ := fin
  refine ⟨S3, ?_, g1, g2⟩
  have hk3 : pid (S3 0 0 1) = k := by rw [g1 0 0 (by unfold acC trC paC; omega)]; exact hk
  unfold fX10_ask
  rw [hk, cal_of (c_man1 (hC.1 2 (by decide)) hMn ⟨m, hm, rfl⟩), if_neg n10, cal_of e1, hk1, cal_of e2, jn_e, e3, hk3, g1 3 k (by unfold acC trC paC; omega), hC.1 3 (by decide), cal_of (c_bestParting hY a2 (by have := ntn_le (pf π d m H) 61; omega) (fun s hs => (a3 s hs).2.2) (fun s hs => by have := grt_b (pf π d m H) (hf π m s) 61; omega))]
