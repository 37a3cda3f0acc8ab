theorem CY.frt {S S1 : St} {k : Nat} {π : Nat → Nat → Nat} (h : CY S k π) (f : Fr trC S S1) : CY S1 k π := by
  unfold CY; rw [f 3 k (by unfold trC; omega), f 7 k (by unfold trC; omega), f 8 k (by unfold trC; omega)]; exact h
theorem l200 {i : Nat} (h : i < 201) : ¬ (200 : Int32) < nI i := show ¬ (nI 200 < nI i) from nI_nlt (by omega) (by omega)
def lst (P : Nat → Bool) : Nat → Int32
  | 0 => -1
  | i + 1 => if P i = true then nI i else lst P i
def brs (π : Nat → Nat → Nat) (so T : Nat → Nat) (a : Nat) : Bool := al (fun s => !a.testBit s || decide (pn π so T s ≤ 5)) (π 0 3)
def fls (π : Nat → Nat → Nat) (so T : Nat → Nat) (a : Nat) : Bool := al (fun s => !a.testBit s || decide (1 ≤ pn π so T s)) (π 0 3)
theorem c_brs {S : St} {k o a : Nat} {π : Nat → Nat → Nat} {so th : Nat → Nat} (hC : CY S k π) (hV : VY π) (hK : SkC S o so th) (hS : VS so th) (ha : a < 256) : fX6_bearsAll k o (nI a) S = some (if brs π so th a = true then 1 else 0, S) := c_bears hC hV hK hS ha
theorem c_fls {S : St} {k o a : Nat} {π : Nat → Nat → Nat} {so th : Nat → Nat} (hC : CY S k π) (hV : VY π) (hK : SkC S o so th) (hS : VS so th) (ha : a < 256) : fX6_feelsAll k o (nI a) S = some (if fls π so th a = true then 1 else 0, S) := c_feels hC hV hK hS ha
theorem c_firstBearing {S : St} {k a kd bk mo n : Nat} {π : Nat → Nat → Nat} {so T : Nat → Nat} (hC : CY S k π) (hV : VY π) (hT : TC S so T kd bk mo) (hS : VS so T) (hkd : kd ≤ 3) (hbk : bk ≤ 9) (hmo : mo < 2 ^ 19) (ha : a < 256) (n1 : n ≤ 201) (n2 : ∀ j, j < n → ¬ brs π so (tr kd bk mo T j) a = true) (n3 : n < 201 → brs π so (tr kd bk mo T n) a = true) : ∃ S1, fX9_firstBearing k (nI a) S = some (if n < 201 then nI n else -1, S1) ∧ Fr trC S S1 := by
  have fin := lopSV (i0 := 0) (N := n) (z := fun _ _ => none) (b := bX9_firstBearing_2 k (nI a) (fun (S_33 : St) => some ((-1 : Int32), S_33))) (K := fun S => some (if n < 201 then nI n else -1, S)) (x := 0) (S := S)
    (fun i S1 => Fr trC S S1 ∧ TC S1 so (tr kd bk mo T i) kd bk (mo + i)) ?hs ?he (Nat.zero_le _) (by rw [FU_eq]; omega) rfl ⟨Fr.rf, hT⟩
  case hs =>
    intro i S1 _ hi ⟨f1, t1⟩
    obtain ⟨S2, e2, f2, t2, -⟩ := c_pass9 t1 (tr_vs hS i) hkd hbk (by omega)
    refine ⟨S2, ⟨f1.tr f2, t2⟩, fun ag => ?_⟩
    unfold bX9_firstBearing_2
    rw [if_neg (l200 (by omega)), cal_of (c_brs (hC.frt f1) hV t1.2.1 (tr_vs hS i) ha), if_neg (n2 i hi), if_pos rfl, cal_of e2, nI_1]
  case he =>
    intro S1 ⟨f1, t1⟩ ag
    unfold bX9_firstBearing_2
    by_cases hn : n < 201
    · rw [if_neg (l200 hn), cal_of (c_brs (hC.frt f1) hV t1.2.1 (tr_vs hS n) ha), if_pos (n3 hn), if_neg n10]
      try dsimp only
      rw [if_pos hn]
    · rw [if_pos (show (200 : Int32) < nI n from nI_lt (a := 200) (by omega) (by omega))]
      try dsimp only
      rw [if_neg hn]
  obtain ⟨S2, ⟨f1, -⟩, e⟩ := fin
  refine ⟨S2, ?_, f1⟩
  unfold fX9_firstBearing
  rw [jn_e, e]
theorem c_lastFeeling {S : St} {k s kd bk mo : Nat} {π : Nat → Nat → Nat} {so T : Nat → Nat} (hC : CY S k π) (hV : VY π) (hT : TC S so T kd bk mo) (hS : VS so T) (hkd : kd ≤ 3) (hbk : bk ≤ 9) (hmo : mo < 2 ^ 19) (hs : s < π 0 3) : ∃ S1, fX9_lastFeeling k (nI s) S = some (lst (fun i => decide (1 ≤ pn π so (tr kd bk mo T i) s)) 201, S1) ∧ Fr trC S S1 := by
  have fin := lopASV (i0 := 0) (N := 201) (z := fun _ _ _ => none) (b := bX9_lastFeeling_5 k (nI s) (fun (x3_39 : Int32) (S_39 : St) => some (x3_39, S_39))) (K := fun S => some (lst (fun i => decide (1 ≤ pn π so (tr kd bk mo T i) s)) 201, S)) (x := 0) (a := -1) (S := S) (lst (fun i => decide (1 ≤ pn π so (tr kd bk mo T i) s)))
    (fun i S1 => Fr trC S S1 ∧ TC S1 so (tr kd bk mo T i) kd bk (mo + i)) ?hs ?he (Nat.zero_le _) (by rw [FU_eq]; omega) rfl rfl ⟨Fr.rf, hT⟩
  case hs =>
    intro i S1 _ hi ⟨f1, t1⟩
    obtain ⟨S2, e2, f2, t2, -⟩ := c_pass9 t1 (tr_vs hS i) hkd hbk (by omega)
    refine ⟨S2, ⟨f1.tr f2, t2⟩, fun ag => ?_⟩
    have hp := pn_le hV hs (tr_vs (kd := kd) (bk := bk) (mo := mo) hS i)
    unfold bX9_lastFeeling_5
    rw [if_neg (l200 (by omega)), cal_of (c_pain (hC.frt f1) hV t1.2.1 (tr_vs hS i) hs), jn_e]
    try dsimp only
    rw [cal_of e2, cal_of e2, nI_1]
    show _ = ag _ (if decide (1 ≤ pn π so (tr kd bk mo T i) s) = true then nI i else _) S2
    by_cases h : pn π so (tr kd bk mo T i) s < 1
    · rw [if_pos ((lt1 (by omega)).mpr h), if_neg (by simp; omega)]
    · rw [if_neg (fun z => h ((lt1 (by omega)).mp z)), if_pos (by simp; omega)]
  case he =>
    intro S1 ⟨f1, t1⟩ ag
    unfold bX9_lastFeeling_5
    rw [if_pos (show (200 : Int32) < nI 201 by decide)]
  obtain ⟨S2, ⟨f1, -⟩, e⟩ := fin
  refine ⟨S2, ?_, f1⟩
  unfold fX9_lastFeeling
  rw [jn_e, e]
theorem brs_one {π : Nat → Nat → Nat} {so T : Nat → Nat} {s : Nat} (hs : s < π 0 3) : brs π so T (2 ^ s) = true ↔ pn π so T s ≤ 5 := by
  unfold brs
  rw [al_iff]
  constructor
  · intro h
    have := h s hs
    rw [Nat.testBit_two_pow] at this
    simpa using this
  · intro h i hi
    rw [Nat.testBit_two_pow]
    by_cases e : s = i
    · subst e; simp [h]
    · simp [e]
theorem sh_s : ∀ s, s < 8 → (1 : Int32) <<< (nI s &&& (31 : Int32)) = nI (2 ^ s) := by decide
theorem MY.frt {S S1 : St} {π : Nat → Nat → Nat} (h : MY S π) (f : Fr (fun a _ => a = 51 ∨ a = 52) S S1) : MY S1 π := by
  unfold MY; rw [f 35 0 (by omega), f 38 0 (by omega), f 39 0 (by omega)]; exact h
theorem n1f : ¬ (0 : Int32) ≤ -1 := by decide
theorem m_when {S : St} {m s n : Nat} {π ν : Nat → Nat → Nat} {A : Int32 → Int32 → Int32} (hP : MP S π) (hN : MN (S 40 0) (π 0 2) ν) (hV : VP π) (hW : VN (π 0 2) ν) (hm : m < π 0 2) (hs : s < π 0 3) (n1 : n ≤ 201) (n2 : ∀ j, j < n → ¬ pn π (fun p => ν (m + 1) (2 + p)) (tr (π 1 m) (ν 0 1) (ν 0 0) (fun p => ν (m + 1) (7 + p)) j) s ≤ 5) (n3 : n < 201 → pn π (fun p => ν (m + 1) (2 + p)) (tr (π 1 m) (ν 0 1) (ν 0 0) (fun p => ν (m + 1) (7 + p)) n) s ≤ 5) : ∃ S1 S2, fX11_takesSkin (nI m) S = some (0, S1) ∧ lop (fun _ _ _ _ => none) (bX11_when_46 (nI m) (nI s) (fun x5 x4 S => some (A x5 x4, S))) FU (0 : Int32) (-1 : Int32) (-1 : Int32) S1 = some (A (lst (fun i => decide (1 ≤ pn π (fun p => ν (m + 1) (2 + p)) (tr (π 1 m) (ν 0 1) (ν 0 0) (fun p => ν (m + 1) (7 + p)) i) s)) 201) (if n < 201 then nI n else -1), S2) ∧ Fr (fun a _ => a = 51 ∨ a = 52) S S2 := by
  have hM := hV.2.2.1
  have hS := hW.vs hm
  have hY := hV.2.2.2.2.1
  have hkd := (hV.2.2.2.1 m hm).1
  have hbk := hW.2.1
  have hmo := hW.1
  obtain ⟨T1, x1, y1, y2⟩ := m_takesSkin (S := S) (show m < 6 by omega)
  have k1 : SkM T1 (fun p => ν (m + 1) (2 + p)) (fun p => ν (m + 1) (7 + p)) := fun p hp => by
    rw [(y2 p hp).1, (y2 p hp).2]; exact (hN.2.2.2.2 m hm).2 p hp
  have fin := lopAASV (i0 := 0) (N := 201) (z := fun _ _ _ _ => none) (b := bX11_when_46 (nI m) (nI s) (fun x5 x4 S => some (A x5 x4, S))) (K := fun S2 => some (A (lst (fun i => decide (1 ≤ pn π (fun p => ν (m + 1) (2 + p)) (tr (π 1 m) (ν 0 1) (ν 0 0) (fun p => ν (m + 1) (7 + p)) i) s)) 201) (if n < 201 then nI n else -1), S2)) (x := 0) (a := -1) (c := -1) (S := T1) (lst (fun i => decide (1 ≤ pn π (fun p => ν (m + 1) (2 + p)) (tr (π 1 m) (ν 0 1) (ν 0 0) (fun p => ν (m + 1) (7 + p)) i) s))) (fun i => if n < i then nI n else -1)
    (fun i S2 => Fr (fun a _ => a = 51 ∨ a = 52) S S2 ∧ SkM S2 (fun p => ν (m + 1) (2 + p)) (tr (π 1 m) (ν 0 1) (ν 0 0) (fun p => ν (m + 1) (7 + p)) i)) ?hs ?he (Nat.zero_le _) (by rw [FU_eq]; omega) rfl rfl (if_neg (by omega)) ⟨y1, k1⟩
  case hs =>
    intro i S2 _ hi ⟨g1, g2⟩
    obtain ⟨S3, e3, f3, t3⟩ := m_step (S := S2) (m := m) (i := i) (kd := π 1 m) (bk := ν 0 1) (mo := ν 0 0) (by omega) (by omega) (by rw [g1 36 0 (by omega)]; exact (hP.2.2.2.2.1 m hm).1) (by rw [g1 40 0 (by omega)]; exact hN.2.1) (by rw [g1 40 0 (by omega)]; exact hN.1) hkd hbk (by omega) g2 (tr_vs hS i)
    refine ⟨S3, ⟨g1.tr (f3.mono (fun a o h => by omega)), t3⟩, fun ag => ?_⟩
    have hp := pn_le hY hs (tr_vs (kd := π 1 m) (bk := ν 0 1) (mo := ν 0 0) hS i)
    have hh := m_hurts (hP.my.frt g1) hY g2 (tr_vs hS i) hs
    have key : ∀ x4 x4', (n < i ∧ x4 = nI n ∧ x4' = nI n) ∨ (n = i ∧ x4 = -1 ∧ x4' = nI i) ∨ (i < n ∧ x4 = -1 ∧ x4' = -1) → ∀ j75 : Int32 → St → Op, (jn (fun (S_73 : St) => j75 x4 S_73) fun j73 => if (0 : Int32) ≤ x4 then (j73 S2) else (cal (fX11_hurts (nI s) S2) fun r_61 S_61 => if (5 : Int32) < r_61 then (j73 S_61) else (j75 (nI i) S_61))) = j75 x4' S2 := by
      intro x4 x4' hc j75
      rw [jn_e]
      rcases hc with ⟨c1, rfl, rfl⟩ | ⟨c1, rfl, rfl⟩ | ⟨c1, rfl, rfl⟩
      · rw [if_pos (nI_pos' (by omega))]
      · subst c1
        rw [if_neg n1f, cal_of hh, if_neg (fun z => by have := (le5 (by omega)).mp z; have := n3 (by omega); omega)]
      · rw [if_neg n1f, cal_of hh, if_pos ((le5 (by omega)).mpr (by have := n2 i c1; omega))]
    unfold bX11_when_46
    rw [if_neg (l200 hi), jn_e]
    refine (key (if n < i then nI n else -1) (if n < i + 1 then nI n else -1) ?_ (fun (v0_75 : Int32) (S_75 : St) => cal (fX11_hurts (nI s) S_75) fun r_79 S_79 => jn (fun (v0_93 : Int32) => ck (nI m) 6 <| ck (1 : Int32) 70 <| ck (0 : Int32) 70 <| cal (fX11_tans (S_79 36 0 (Int32.toNatClampNeg (nI m))) (S_79 40 0 (Int32.toNatClampNeg (1 : Int32))) ((S_79 40 0 (Int32.toNatClampNeg (0 : Int32))) + nI i) S_79) fun _ S_117 => ag (nI i + (1 : Int32)) v0_93 v0_75 S_117) fun j93 => if r_79 < (1 : Int32) then (j93 (lst (fun i => decide (1 ≤ pn π (fun p => ν (m + 1) (2 + p)) (tr (π 1 m) (ν 0 1) (ν 0 0) (fun p => ν (m + 1) (7 + p)) i) s)) i)) else (j93 (nI i)))).trans ?_
    rotate_left
    · try dsimp only
      rw [cal_of hh, jn_e]
      try dsimp only
      rw [e3 (fun S => ag (nI i + 1) _ _ S), e3 (fun S => ag (nI i + 1) _ _ S), nI_1]
      show _ = ag _ (if decide (1 ≤ pn π (fun p => ν (m + 1) (2 + p)) (tr (π 1 m) (ν 0 1) (ν 0 0) (fun p => ν (m + 1) (7 + p)) i) s) = true then nI i else _) _ S3
      by_cases h : pn π (fun p => ν (m + 1) (2 + p)) (tr (π 1 m) (ν 0 1) (ν 0 0) (fun p => ν (m + 1) (7 + p)) i) s < 1
      · rw [if_pos ((lt1 (by omega)).mpr h), if_neg (show ¬ decide (1 ≤ pn π (fun p => ν (m + 1) (2 + p)) (tr (π 1 m) (ν 0 1) (ν 0 0) (fun p => ν (m + 1) (7 + p)) i) s) = true by simp; omega)]
      · rw [if_neg (fun z => h ((lt1 (by omega)).mp z)), if_pos (show decide (1 ≤ pn π (fun p => ν (m + 1) (2 + p)) (tr (π 1 m) (ν 0 1) (ν 0 0) (fun p => ν (m + 1) (7 + p)) i) s) = true by simp; omega)]
    · rcases (show n < i ∨ n = i ∨ i < n by omega) with c | c | c
      · exact Or.inl ⟨c, if_pos c, if_pos (by omega)⟩
      · exact Or.inr (Or.inl ⟨c, if_neg (by omega), by rw [if_pos (by omega), c]⟩)
      · exact Or.inr (Or.inr ⟨c, if_neg (by omega), if_neg (by omega)⟩)
  case he =>
    intro S1 ⟨f1, t1⟩ ag
    unfold bX11_when_46
    rw [if_pos (show (200 : Int32) < nI 201 by decide)]
  obtain ⟨S2, ⟨f1, -⟩, e⟩ := fin
  exact ⟨T1, S2, x1, e, f1⟩
theorem same_when (a b c : Int32) : Same (fX10_when a b c) (fX11_when a b c) := by
  refine same_of (fun S q π ν us im d fa hC _ hV => ?_)
  have hk := hC.k
  have hMn : π 0 2 ≤ 6 := hV.1.2.2.1
  have hY : π 0 3 ≤ 8 := hV.1.2.2.2.2.1.1
  have w1 : ∀ S0, fX11_within c.toInt64 (0 : Int64) (1 : Int64) S0 = some (if (0 : Int32) ≤ c ∧ c ≤ 1 then 1 else 0, S0) := fun S0 => m_within c 0 1 S0
  by_cases ha : isB a (π 0 2)
  · by_cases hb : isB b (π 0 3)
    · by_cases hc : (0 : Int32) ≤ c ∧ c ≤ 1
      · obtain ⟨m, hm, rfl⟩ := id ha
        obtain ⟨s, hs, rfl⟩ := id hb
        have hS := hV.2.1.1.vs hm
        have hkd := (hV.1.2.2.2.1 m hm).1
        have hbk := hV.2.1.1.2.1
        have hmo := hV.2.1.1.1
        have hvy := hV.1.2.2.2.2.1
        obtain ⟨n, n1, n2, n3⟩ := first_of (fun i => pn π (fun p => ν (m + 1) (2 + p)) (tr (π 1 m) (ν 0 1) (ν 0 0) (fun p => ν (m + 1) (7 + p)) i) s ≤ 5) 201
        obtain ⟨S1, e1, f1, t1, -⟩ := c_startNow hC.2.2.1 hV.1 hm
        have hk1 : pid (S1 0 0 1) = q 7 := by rw [f1 0 0 (by unfold trC; omega)]; exact hk
        have p2 : 2 ^ s < 256 := by have : 2 ^ s < 2 ^ 8 := Nat.pow_lt_pow_right (by decide) (by omega); exact this
        have cl : ∃ S2, fX10_when (nI m) (nI s) c S = some (if c = 0 then (if n < 201 then nI n else -1) else lst (fun i => decide (1 ≤ pn π (fun p => ν (m + 1) (2 + p)) (tr (π 1 m) (ν 0 1) (ν 0 0) (fun p => ν (m + 1) (7 + p)) i) s)) 201, S2) ∧ Fr trC S S2 := by
          unfold fX10_when
          rw [hk, cal_of (c_man1 (hC.2.1.1 2 (by decide)) hMn ha), if_neg n10, hk, cal_of (c_say1 (hC.2.1.1 3 (by decide)) hY hb), if_neg n10, c_isOut, cal_s, if_pos hc, if_pos rfl, cal_of e1, hk1, sh_s s (by omega)]
          by_cases h0 : c = 0
          · obtain ⟨S2, e2, f2⟩ := c_firstBearing (n := n) (hC.2.1.cy.frt f1) hvy t1 hS hkd hbk (by omega) p2 n1 (fun j hj z => n2 j hj ((brs_one hs).mp z)) (fun h => (brs_one hs).mpr (n3 h))
            refine ⟨S2, ?_, f1.tr f2⟩
            rw [if_pos h0, if_pos h0, cal_of e2]
          · obtain ⟨S2, e2, f2⟩ := c_lastFeeling (hC.2.1.cy.frt f1) hvy t1 hS hkd hbk (by omega) hs
            refine ⟨S2, ?_, f1.tr f2⟩
            rw [if_neg h0, if_neg h0, cal_of e2]
        obtain ⟨S2, e2, f2⟩ := cl
        refine ⟨_, S2, e2, f2.mono (fun a o h => by unfold trC at h; unfold scC; omega), fun a ha => kind_of f2 (fun o => by unfold trC; omega), fun S0 hM => ?_⟩
        obtain ⟨T1, T2, x1, x2, y2⟩ := m_when (A := fun x5 x4 => if c = 0 then x4 else x5) hM.1 hM.2.1 hV.1 hV.2.1.1 hm hs n1 n2 n3
        refine ⟨T2, ?_, y2.mono (fun a o h => by unfold scM; omega), fun a ha => kind_of y2 (fun o => by omega)⟩
        have hj : (fun (x5_126 : Int32) (x4_126 : Int32) (S_126 : St) => if c = (0 : Int32) then (some (x4_126, S_126) : Op) else (some (x5_126, S_126))) = (fun x5 x4 S => some (if c = 0 then x4 else x5, S)) := by
          funext x5 x4 S
          by_cases h0 : c = 0
          · rw [if_pos h0, if_pos h0]
          · rw [if_neg h0, if_neg h0]
        unfold fX11_when
        rw [cal_of (m_man1 hM.1.2.2.1 hMn ha), if_neg n10, cal_of (m_say1 hM.1.2.2.2.1 hY hb), if_neg n10, w1, cal_s, if_pos hc, if_neg n10, cal_of x1, hj, jn_e, x2]
      · refine ⟨-1000000002, S, ?_, Fr.rf, fun _ _ => rfl, fun S0 hM => ⟨S0, ?_, Fr.rf, fun _ _ => rfl⟩⟩
        · unfold fX10_when
          rw [hk, cal_of (c_man1 (hC.2.1.1 2 (by decide)) hMn ha), if_neg n10, hk, cal_of (c_say1 (hC.2.1.1 3 (by decide)) hY hb), if_neg n10, c_isOut, cal_s, if_neg hc, if_neg n10]
        · unfold fX11_when
          rw [cal_of (m_man1 hM.1.2.2.1 hMn ha), if_neg n10, cal_of (m_say1 hM.1.2.2.2.1 hY hb), if_neg n10, w1, cal_s, if_neg hc, if_pos rfl]
    · refine ⟨-1000000001, S, ?_, Fr.rf, fun _ _ => rfl, fun S0 hM => ⟨S0, ?_, Fr.rf, fun _ _ => rfl⟩⟩
      · unfold fX10_when
        rw [hk, cal_of (c_man1 (hC.2.1.1 2 (by decide)) hMn ha), if_neg n10, hk, cal_of (c_say0 (hC.2.1.1 3 (by decide)) hY hb), if_pos rfl]
      · unfold fX11_when
        rw [cal_of (m_man1 hM.1.2.2.1 hMn ha), if_neg n10, cal_of (m_say0 hM.1.2.2.2.1 hY hb), if_pos rfl]
  · refine ⟨-1000000001, S, ?_, Fr.rf, fun _ _ => rfl, fun S0 hM => ⟨S0, ?_, Fr.rf, fun _ _ => rfl⟩⟩
    · unfold fX10_when
      rw [hk, cal_of (c_man0 (hC.2.1.1 2 (by decide)) hMn ha), if_pos rfl]
    · unfold fX11_when
      rw [cal_of (m_man0 hM.1.2.2.1 hMn ha), if_pos rfl]
