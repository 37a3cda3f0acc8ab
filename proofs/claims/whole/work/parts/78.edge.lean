def ntn (P : Nat → Bool) : Nat → Nat
  | 0 => 0
  | i + 1 => if P i = true then ntn P i + 1 else ntn P i
def ntl (P : Nat → Bool) : Nat → Int32
  | 0 => -1
  | i + 1 => if P i = true then (if ntn P i = 0 then nI i else ntl P i) else ntl P i
theorem ntn_le (P : Nat → Bool) : ∀ i, ntn P i ≤ i
  | 0 => Nat.le_refl _
  | i + 1 => by
    have := ntn_le P i
    unfold ntn
    split <;> omega
theorem ntn_t {P : Nat → Bool} {i : Nat} (h : P i = true) : ntn P (i + 1) = ntn P i + 1 := if_pos h
theorem ntn_f {P : Nat → Bool} {i : Nat} (h : P i = false) : ntn P (i + 1) = ntn P i := if_neg (by rw [h]; decide)
theorem ntl_t {P : Nat → Bool} {i : Nat} (h : P i = true) : ntl P (i + 1) = if ntn P i = 0 then nI i else ntl P i := if_pos h
theorem ntl_f {P : Nat → Bool} {i : Nat} (h : P i = false) : ntl P (i + 1) = ntl P i := if_neg (by rw [h]; decide)
theorem lst_t {P : Nat → Bool} {i : Nat} (h : P i = true) : lst P (i + 1) = nI i := if_pos h
theorem lst_f {P : Nat → Bool} {i : Nat} (h : P i = false) : lst P (i + 1) = lst P i := if_neg (by rw [h]; decide)
theorem c_note {S : St} {x l : Int32} {n : Nat} (h3 : S 30 0 3 = nI n) (hn : n < 2 ^ 30) (h4 : S 30 0 4 = l) : ∃ S1, fX9_note x S = some (0, S1) ∧ Fr (fun a o => a = 30 ∧ o = 0) S S1 ∧ S1 30 0 3 = nI (n + 1) ∧ S1 30 0 4 = (if n = 0 then x else l) ∧ S1 30 0 5 = x ∧ ∀ i, i < 3 → S1 30 0 i = S 30 0 i := by
  unfold fX9_note
  rw [jn_e, h3]
  by_cases h0 : n = 0
  · refine ⟨wr (wr (wr S 30 0 4 x) 30 0 5 x) 30 0 3 (nI (n + 1)), ?_, ((Fr.rf.wr ⟨rfl, rfl⟩).wr ⟨rfl, rfl⟩).wr ⟨rfl, rfl⟩, wr_same _ _ _ _ _, ?_, ?_, fun i hi => ?_⟩
    · rw [if_pos (by rw [h0]; rfl), bs_e]
      dsimp only
      rw [bs_e, bs_e, wr_i (a2 := 30) (i2 := 3) (by omega), wr_i (a2 := 30) (i2 := 3) (by omega), h3, nI_1]
    · rw [if_pos h0, wr_i (by omega), wr_i (by omega), wr_same]
    · rw [wr_i (by omega), wr_same]
    · rw [wr_i (by omega), wr_i (by omega), wr_i (by omega)]
  · refine ⟨wr (wr S 30 0 5 x) 30 0 3 (nI (n + 1)), ?_, (Fr.rf.wr ⟨rfl, rfl⟩).wr ⟨rfl, rfl⟩, wr_same _ _ _ _ _, ?_, ?_, fun i hi => ?_⟩
    · rw [if_neg (nI_ne0 (by omega) (by omega))]
      dsimp only
      rw [bs_e, bs_e, wr_i (a2 := 30) (i2 := 3) (by omega), h3, nI_1]
    · rw [if_neg h0, wr_i (by omega), wr_i (by omega)]; exact h4
    · rw [wr_i (by omega), wr_same]
    · rw [wr_i (by omega), wr_i (by omega)]
/-- the trial with its notes -/
def TN (S : St) (so T : Nat → Nat) (kd bk mo : Nat) (P : Nat → Bool) (i : Nat) : Prop := TC S so (tr kd bk mo T i) kd bk (mo + i) ∧ S 30 0 3 = nI (ntn P i) ∧ S 30 0 4 = ntl P i ∧ S 30 0 5 = lst P i
theorem TN.next {S : St} {so T : Nat → Nat} {kd bk mo i : Nat} {P : Nat → Bool} (h : TN S so T kd bk mo P i) (hS : VS so T) (hkd : kd ≤ 3) (hbk : bk ≤ 9) (hmo : mo < 2 ^ 19) (hi : i < 201) (hp : P i = false) : ∃ S1, fX9_passMonth S = some (0, S1) ∧ Fr trC S S1 ∧ TN S1 so T kd bk mo P (i + 1) := by
  obtain ⟨h1, h2, h3, h4⟩ := h
  obtain ⟨S1, e1, f1, t1, g1⟩ := c_pass9 h1 (tr_vs hS i) hkd hbk (by omega)
  refine ⟨S1, e1, f1, t1, ?_, ?_, ?_⟩
  · rw [g1 3 (by omega), h2, ntn_f hp]
  · rw [g1 4 (by omega), h3, ntl_f hp]
  · rw [g1 5 (by omega), h4, lst_f hp]
theorem TN.noted {S : St} {so T : Nat → Nat} {kd bk mo i : Nat} {P : Nat → Bool} (h : TN S so T kd bk mo P i) (hS : VS so T) (hkd : kd ≤ 3) (hbk : bk ≤ 9) (hmo : mo < 2 ^ 19) (hi : i < 201) (hp : P i = true) : ∃ S1 S2, fX9_note (nI i) S = some (0, S1) ∧ fX9_passMonth S1 = some (0, S2) ∧ Fr trC S S2 ∧ TN S2 so T kd bk mo P (i + 1) := by
  obtain ⟨h1, h2, h3, h4⟩ := h
  have hb := ntn_le P i
  obtain ⟨S1, e1, f1, a3, a4, a5, a6⟩ := c_note (x := nI i) h2 (by omega) h3
  have t1 : TC S1 so (tr kd bk mo T i) kd bk (mo + i) := by
    refine ⟨?_, fun p hp => ?_, ?_, ?_⟩
    · rw [f1 11 6 (by omega)]; exact h1.1
    · rw [f1 12 6 (by omega), f1 13 6 (by omega)]; exact h1.2.1 p hp
    · rw [a6 1 (by omega)]; exact h1.2.2.1
    · rw [a6 2 (by omega)]; exact h1.2.2.2
  obtain ⟨S2, e2, f2, t2, g2⟩ := c_pass9 t1 (tr_vs hS i) hkd hbk (by omega)
  refine ⟨S1, S2, e1, e2, (f1.mono (fun a o h => by unfold trC; omega)).tr f2, t2, ?_, ?_, ?_⟩
  · rw [g2 3 (by omega), a3, ntn_t hp]
  · rw [g2 4 (by omega), a4, ntl_t hp]
  · rw [g2 5 (by omega), a5, lst_t hp]
theorem c_noted {S : St} {so T : Nat → Nat} {kd bk mo i : Nat} {P : Nat → Bool} {x : Int32} (h : TN S so T kd bk mo P i) : fX9_noted x S = some (if x = 0 then nI (ntn P i) else if x = 1 then ntl P i else lst P i, S) := by
  unfold fX9_noted
  rw [h.2.1, h.2.2.1, h.2.2.2]
  repeat' split
  all_goals rfl
theorem same_edge (a b c e : Int32) : Same (fX10_edge a b c e) (fX11_edge a b c e) := by
  refine same_of (fun S q π ν us im d fa hC _ hV => ?_)
  have hk := hC.k
  have hMn : π 0 2 ≤ 6 := hV.1.2.2.1
  have hY : π 0 3 ≤ 8 := hV.1.2.2.2.2.1.1
  have w1 : ∀ S0, fX11_within e.toInt64 (0 : Int64) (2 : Int64) S0 = some (if (0 : Int32) ≤ e ∧ e ≤ 2 then 1 else 0, S0) := fun S0 => m_within e 0 2 S0
  by_cases ha : isB a (π 0 2)
  · by_cases hb : isSet b (π 0 3)
    · by_cases hc : isSet c (π 0 3)
      · by_cases he : (0 : Int32) ≤ e ∧ e ≤ 2
        · obtain ⟨m, hm, rfl⟩ := id ha
          obtain ⟨x, hx, rfl⟩ := id hb
          obtain ⟨y, hy, rfl⟩ := id hc
          have hS := hV.2.1.1.vs hm
          have hkd := (hV.1.2.2.2.1 m hm).1
          have hbk := hV.2.1.1.2.1
          have hmo := hV.2.1.1.1
          have hvy := hV.1.2.2.2.2.1
          have p8 : 2 ^ π 0 3 ≤ 2 ^ 8 := Nat.pow_le_pow_right (by decide) hY
          obtain ⟨S1, e1, f1, t1, z3, z4, z5⟩ := c_startNow hC.2.2.1 hV.1 hm
          generalize hso : (fun p => ν (m + 1) (2 + p)) = so at *
          generalize hT : (fun p => ν (m + 1) (7 + p)) = T at *
          generalize hP : (fun i => brs π so (tr (π 1 m) (ν 0 1) (ν 0 0) T i) x && fls π so (tr (π 1 m) (ν 0 1) (ν 0 0) T i) y) = P
          have fin := lopSK (i0 := 0) (N := 201) (z := fun _ _ => none) (b := bX10_edge_64 (nI x) (nI y)) (x := 0) (S := S1)
            (fun i S2 => Fr trC S S2 ∧ TN S2 so T (π 1 m) (ν 0 1) (ν 0 0) P i) ?hs ?he (Nat.zero_le _) (by rw [FU_eq]; omega) rfl ⟨f1, t1, z3, z4, z5⟩
          case hs =>
            intro i S2 _ hi ⟨g1, g2⟩
            have hk2 : pid (S2 0 0 1) = q 7 := by rw [g1 0 0 (by unfold trC; omega)]; exact hk
            have cy := hC.2.1.cy.frt g1
            have cb := c_brs cy hvy g2.1.2.1 (tr_vs hS i) (show x < 256 by omega)
            have cf := c_fls cy hvy g2.1.2.1 (tr_vs hS i) (show y < 256 by omega)
            have hPi : P i = (brs π so (tr (π 1 m) (ν 0 1) (ν 0 0) T i) x && fls π so (tr (π 1 m) (ν 0 1) (ν 0 0) T i) y) := by rw [← hP]
            by_cases h1 : brs π so (tr (π 1 m) (ν 0 1) (ν 0 0) T i) x = true
            · by_cases h2 : fls π so (tr (π 1 m) (ν 0 1) (ν 0 0) T i) y = true
              · obtain ⟨S3, S4, e3, e4, f4, t4⟩ := g2.noted hS hkd hbk (by omega) hi (by rw [hPi, h1, h2]; rfl)
                refine ⟨S4, ⟨g1.tr f4, t4⟩, fun kk ag => ?_⟩
                unfold bX10_edge_64
                rw [if_neg (l200 hi), hk2, cal_of cb, if_pos h1, jn_e]
                try dsimp only
                rw [if_neg n10, hk2, cal_of cf, if_pos h2, if_neg n10, cal_of e3, cal_of e4, nI_1]
              · obtain ⟨S4, e4, f4, t4⟩ := g2.next hS hkd hbk (by omega) hi (by rw [hPi, h1]; simpa using h2)
                refine ⟨S4, ⟨g1.tr f4, t4⟩, fun kk ag => ?_⟩
                unfold bX10_edge_64
                rw [if_neg (l200 hi), hk2, cal_of cb, if_pos h1, jn_e]
                try dsimp only
                rw [if_neg n10, hk2, cal_of cf, if_neg h2, if_pos rfl, cal_of e4, nI_1]
            · obtain ⟨S4, e4, f4, t4⟩ := g2.next hS hkd hbk (by omega) hi (by rw [hPi]; simp [h1])
              refine ⟨S4, ⟨g1.tr f4, t4⟩, fun kk ag => ?_⟩
              unfold bX10_edge_64
              rw [if_neg (l200 hi), hk2, cal_of cb, if_neg h1, jn_e]
              try dsimp only
              rw [if_pos rfl, cal_of e4, nI_1]
          case he =>
            intro S2 _ kk ag
            unfold bX10_edge_64
            rw [if_pos (show (200 : Int32) < nI 201 by decide)]
          obtain ⟨S2, ⟨g1, g2⟩, e2⟩ := fin
          refine ⟨if e = 0 then nI (ntn P 201) else if e = 1 then ntl P 201 else lst P 201, S2, ?_, g1.mono (fun a o h => by unfold trC at h; unfold scC; omega), fun a ha => kind_of g1 (fun o => by unfold trC; omega), fun S0 hM => ?_⟩
          · unfold fX10_edge
            rw [hk, cal_of (c_man1 (hC.2.1.1 2 (by decide)) hMn ha), if_neg n10, hk, cal_of (c_set1 (hC.2.1.1 3 (by decide)) hY hb), if_neg n10, hk, cal_of (c_set1 (hC.2.1.1 3 (by decide)) hY hc), if_neg n10, c_isOut, cal_s, if_pos he, if_pos rfl, cal_of e1, jn_e, e2, cal_of (c_noted g2)]
          · obtain ⟨T1, x1, y1, y2⟩ := m_takesSkin (S := S0) (show m < 6 by omega)
            have k1 : SkM T1 so T := fun p hp => by
              rw [(y2 p hp).1, (y2 p hp).2, ← hso, ← hT]; exact (hM.2.1.2.2.2.2 m hm).2 p hp
            have hj : (fun (x7_140 : Int32) (x6_140 : Int32) (x5_140 : Int32) (S_140 : St) => if e = (0 : Int32) then (some (x5_140, S_140) : Op) else (if e = (1 : Int32) then (some (x6_140, S_140)) else (some (x7_140, S_140)))) = (fun x7 x6 x5 S => some (if e = 0 then x5 else if e = 1 then x6 else x7, S)) := by
              funext x7 x6 x5 S
              repeat' split
              all_goals rfl
            have fin := lopAAASV (i0 := 0) (N := 201) (z := fun _ _ _ _ _ => none) (b := bX11_edge_60 (nI m) (nI x) (nI y) (fun x7 x6 x5 S => some (if e = 0 then x5 else if e = 1 then x6 else x7, S))) (K := fun S => some (if e = 0 then nI (ntn P 201) else if e = 1 then ntl P 201 else lst P 201, S)) (x := 0) (a := -1) (c := -1) (e := 0) (S := T1) (lst P) (ntl P) (fun i => nI (ntn P i))
              (fun i S2 => Fr (fun a _ => a = 51 ∨ a = 52) S0 S2 ∧ SkM S2 so (tr (π 1 m) (ν 0 1) (ν 0 0) T i)) ?hs ?he (Nat.zero_le _) (by rw [FU_eq]; omega) rfl rfl rfl rfl ⟨y1, k1⟩
            case hs =>
              intro i S2 _ hi ⟨g1, g2⟩
              obtain ⟨S3, e3, f3, t3⟩ := m_step (S := S2) (m := m) (i := i) (kd := π 1 m) (bk := ν 0 1) (mo := ν 0 0) (by omega) (by omega) (by rw [g1 36 0 (by omega)]; exact (hM.1.2.2.2.2.1 m hm).1) (by rw [g1 40 0 (by omega)]; exact hM.2.1.2.1) (by rw [g1 40 0 (by omega)]; exact hM.2.1.1) hkd hbk (by omega) g2 (tr_vs hS i)
              refine ⟨S3, ⟨g1.tr (f3.mono (fun a o h => by omega)), t3⟩, fun ag => ?_⟩
              have hb1 := m_borne (hM.1.my.frt g1) hvy g2 (tr_vs hS i)
              have hf1 := m_felt (hM.1.my.frt g1) hvy g2 (tr_vs hS i)
              have sb := sub_iff (f := fun s => decide (pn π so (tr (π 1 m) (ν 0 1) (ν 0 0) T i) s ≤ 5)) hY hx
              have sf := sub_iff (f := fun s => decide (1 ≤ pn π so (tr (π 1 m) (ν 0 1) (ν 0 0) T i) s)) hY hy
              have hPi : P i = (brs π so (tr (π 1 m) (ν 0 1) (ν 0 0) T i) x && fls π so (tr (π 1 m) (ν 0 1) (ν 0 0) T i) y) := by rw [← hP]
              have hn := ntn_le P i
              unfold bX11_edge_60
              rw [if_neg (l200 hi), cal_of hb1, jn_e]
              try dsimp only
              by_cases h1 : brs π so (tr (π 1 m) (ν 0 1) (ν 0 0) T i) x = true
              · rw [if_pos (sb.mpr h1), cal_of hf1]
                by_cases h2 : fls π so (tr (π 1 m) (ν 0 1) (ν 0 0) T i) y = true
                · have pt : P i = true := by rw [hPi, h1, h2]; rfl
                  rw [if_pos (sf.mpr h2), jn_e]
                  try dsimp only
                  rw [e3 (fun S => ag (nI i + 1) _ _ _ S), e3 (fun S => ag (nI i + 1) _ _ _ S), nI_1, nI_1, lst_t pt, ntl_t pt, ntn_t pt]
                  by_cases h0 : ntn P i = 0
                  · rw [if_pos h0, if_pos (show nI (ntn P i) = (0 : Int32) by rw [h0]; rfl)]
                  · rw [if_neg h0, if_neg (nI_ne0 (by omega) (by omega))]
                · have pf : P i = false := by rw [hPi, h1]; simpa using h2
                  rw [if_neg (fun z => h2 (sf.mp z)), e3 (fun S => ag (nI i + 1) _ _ _ S), nI_1]
                  rw [lst_f pf, ntl_f pf, ntn_f pf]
              · have pf : P i = false := by rw [hPi]; simp [h1]
                rw [if_neg (fun z => h1 (sb.mp z)), e3 (fun S => ag (nI i + 1) _ _ _ S), nI_1]
                rw [lst_f pf, ntl_f pf, ntn_f pf]
            case he =>
              intro S2 _ ag
              unfold bX11_edge_60
              rw [if_pos (show (200 : Int32) < nI 201 by decide)]
            obtain ⟨T2, ⟨g1, g2⟩, x2⟩ := fin
            refine ⟨T2, ?_, g1.mono (fun a o h => by unfold scM; omega), fun a ha => kind_of g1 (fun o => by omega)⟩
            unfold fX11_edge
            rw [cal_of (m_man1 hM.1.2.2.1 hMn ha), if_neg n10, cal_of (m_set1 hM.1.2.2.2.1 hY hb), if_neg n10, cal_of (m_set1 hM.1.2.2.2.1 hY hc), if_neg n10, w1, cal_s, if_pos he, if_neg n10, cal_of x1, hj, jn_e, x2]
        · refine ⟨-1000000002, S, ?_, Fr.rf, fun _ _ => rfl, fun S0 hM => ⟨S0, ?_, Fr.rf, fun _ _ => rfl⟩⟩
          · unfold fX10_edge
            rw [hk, cal_of (c_man1 (hC.2.1.1 2 (by decide)) hMn ha), if_neg n10, hk, cal_of (c_set1 (hC.2.1.1 3 (by decide)) hY hb), if_neg n10, hk, cal_of (c_set1 (hC.2.1.1 3 (by decide)) hY hc), if_neg n10, c_isOut, cal_s, if_neg he, if_neg n10]
          · unfold fX11_edge
            rw [cal_of (m_man1 hM.1.2.2.1 hMn ha), if_neg n10, cal_of (m_set1 hM.1.2.2.2.1 hY hb), if_neg n10, cal_of (m_set1 hM.1.2.2.2.1 hY hc), if_neg n10, w1, cal_s, if_neg he, if_pos rfl]
      · refine ⟨-1000000001, S, ?_, Fr.rf, fun _ _ => rfl, fun S0 hM => ⟨S0, ?_, Fr.rf, fun _ _ => rfl⟩⟩
        · unfold fX10_edge
          rw [hk, cal_of (c_man1 (hC.2.1.1 2 (by decide)) hMn ha), if_neg n10, hk, cal_of (c_set1 (hC.2.1.1 3 (by decide)) hY hb), if_neg n10, hk, cal_of (c_set0 (hC.2.1.1 3 (by decide)) hY hc), if_pos rfl]
        · unfold fX11_edge
          rw [cal_of (m_man1 hM.1.2.2.1 hMn ha), if_neg n10, cal_of (m_set1 hM.1.2.2.2.1 hY hb), if_neg n10, cal_of (m_set0 hM.1.2.2.2.1 hY hc), if_pos rfl]
    · refine ⟨-1000000001, S, ?_, Fr.rf, fun _ _ => rfl, fun S0 hM => ⟨S0, ?_, Fr.rf, fun _ _ => rfl⟩⟩
      · unfold fX10_edge
        rw [hk, cal_of (c_man1 (hC.2.1.1 2 (by decide)) hMn ha), if_neg n10, hk, cal_of (c_set0 (hC.2.1.1 3 (by decide)) hY hb), if_pos rfl]
      · unfold fX11_edge
        rw [cal_of (m_man1 hM.1.2.2.1 hMn ha), if_neg n10, cal_of (m_set0 hM.1.2.2.2.1 hY hb), if_pos rfl]
  · refine ⟨-1000000001, S, ?_, Fr.rf, fun _ _ => rfl, fun S0 hM => ⟨S0, ?_, Fr.rf, fun _ _ => rfl⟩⟩
    · unfold fX10_edge
      rw [hk, cal_of (c_man0 (hC.2.1.1 2 (by decide)) hMn ha), if_pos rfl]
    · unfold fX11_edge
      rw [cal_of (m_man0 hM.1.2.2.1 hMn ha), if_pos rfl]
