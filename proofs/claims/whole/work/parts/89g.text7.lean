/-! a clause: its word, its body, its end -/
theorem cal_id (g : Op) : (cal g fun r S => some (r, S)) = g := by
  cases g with
  | none => rfl
  | some x => rfl
def wfN (c P M Y : Nat) : Nat := if P = 0 then (if c = 116 then 0 else 1) else if c = 116 then 3 else if c = 109 then (if 6 ≤ M then 3 else 0) else if c = 115 then (if 8 ≤ Y then 3 else 0) else 1
theorem nI_c {c b : Nat} (hc : c ≤ 255) (hb : b ≤ 255) : nI c = nI b ↔ c = b := nI_eq (by omega) (by omega)
theorem c_word {S : St} {o c : Nat} {π : Nat → Nat → Nat} (hC : CP S o π) (hV : VP π) (hc : c ≤ 255) : fX8_faultOfWord (nI c) o S = some (nI (wfN c (π 0 0) (π 0 2) (π 0 3)), S) := by
  have w2 := hV.2.2.1
  have w3 := hV.2.2.2.2.1.1
  have q1 : (nI c = (116 : Int32)) ↔ c = 116 := nI_c (b := 116) hc (by decide)
  have q2 : (nI c = (109 : Int32)) ↔ c = 109 := nI_c (b := 109) hc (by decide)
  have q3 : (nI c = (115 : Int32)) ↔ c = 115 := nI_c (b := 115) hc (by decide)
  unfold fX8_faultOfWord wfN
  rw [cal_of (c_isNone (hC.1 0 (by decide)) hV.1)]
  by_cases hP : π 0 0 = 0
  · rw [if_pos hP, if_pos hP, if_neg n10]
    by_cases h : c = 116
    · rw [if_pos (q1.mpr h), if_pos h]; rfl
    · rw [if_neg (fun z => h (q1.mp z)), if_neg h]; rfl
  · rw [if_neg hP, if_neg hP, if_pos rfl]
    by_cases h : c = 116
    · rw [if_pos (q1.mpr h), if_pos h]; rfl
    · rw [if_neg (fun z => h (q1.mp z)), if_neg h]
      by_cases h2 : c = 109
      · rw [if_pos (q2.mpr h2), if_pos h2, hC.1 2 (by decide)]
        by_cases h6 : 6 ≤ π 0 2
        · rw [if_pos (show (6 : Int32) ≤ nI (π 0 2) from nI_le (a := 6) h6 (by omega)), if_pos h6]; rfl
        · rw [if_neg (show ¬ (6 : Int32) ≤ nI (π 0 2) from nI_ge (b := 6) (by omega) (by decide)), if_neg h6]; rfl
      · rw [if_neg (fun z => h2 (q2.mp z)), if_neg h2]
        by_cases h3 : c = 115
        · rw [if_pos (q3.mpr h3), if_pos h3, hC.1 3 (by decide)]
          by_cases h8 : 8 ≤ π 0 3
          · rw [if_pos (show (8 : Int32) ≤ nI (π 0 3) from nI_le (a := 8) h8 (by omega)), if_pos h8]; rfl
          · rw [if_neg (show ¬ (8 : Int32) ≤ nI (π 0 3) from nI_ge (b := 8) (by omega) (by decide)), if_neg h8]; rfl
        · rw [if_neg (fun z => h3 (q3.mp z)), if_neg h3]; rfl
theorem m_full0 {T : St} {P : Nat} (h : T 35 0 23 = nI P) (hP : P ≤ 3) : fX11_isFull 0 T = some (if P = 0 then 0 else 1, T) := by
  unfold fX11_isFull
  rw [if_pos rfl, h]
  by_cases q : P = 0
  · subst q; rw [if_pos (by decide), if_pos rfl]
  · rw [if_neg (nI_nle (by omega) (by omega)), if_neg q]
theorem m_full1 {T : St} {M : Nat} (h : T 35 0 25 = nI M) (hM : M ≤ 6) : fX11_isFull 1 T = some (if M = 6 then 1 else 0, T) := by
  unfold fX11_isFull
  rw [if_neg n10, if_pos rfl, h]
  by_cases q : M = 6
  · subst q; rw [if_pos rfl, if_pos (show nI 6 = (6 : Int32) from rfl)]
  · rw [if_neg (show ¬ nI M = (6 : Int32) from fun z => q (nI_inj (b := 6) (by omega) (by decide) z)), if_neg q]
theorem m_full2 {T : St} {Y : Nat} (h : T 35 0 28 = nI Y) (hY : Y ≤ 8) : fX11_isFull 2 T = some (if Y = 8 then 1 else 0, T) := by
  unfold fX11_isFull
  rw [if_neg (show ¬ (2 : Int32) = 0 by decide), if_neg (show ¬ (2 : Int32) = 1 by decide), h]
  by_cases q : Y = 8
  · subst q; rw [if_pos rfl, if_pos (show nI 8 = (8 : Int32) from rfl)]
  · rw [if_neg (show ¬ nI Y = (8 : Int32) from fun z => q (nI_inj (b := 8) (by omega) (by decide) z)), if_neg q]
theorem m_body0 (T : St) : fX11_takeBody 0 T = fX11_takePits T := by
  unfold fX11_takeBody
  rw [if_pos rfl, cal_id]
theorem m_body1 (T : St) : fX11_takeBody 1 T = fX11_takeMan T := by
  unfold fX11_takeBody
  rw [if_neg n10, if_pos rfl, cal_id]
theorem m_body2 (T : St) : fX11_takeBody 2 T = fX11_takeSaying T := by
  unfold fX11_takeBody
  rw [if_neg (show ¬ (2 : Int32) = 0 by decide), if_neg (show ¬ (2 : Int32) = 1 by decide), cal_id]
def fcC (fc : Nat → St → Op) (o : Nat) (S : St) : Op := bs (wr S 1 0 2 ((S 1 0 2) + (1 : Int32))) fun S_32 => cal (fc o S_32) fun _ S_43 => cal (fX8_skipMark (59 : Int32) S_43) fun _ S_71 => some ((0 : Int32), S_71)
def fmC (fm : St → Op) (T : St) : Op := bs (wr T 35 0 20 ((T 35 0 20) + (1 : Int32))) fun S_87 => cal (fm S_87) fun r_92 S_92 => if r_92 ≤ (0 : Int32) then (cal (fX11_here S_92) fun r_103 S_103 => if r_103 = (59 : Int32) then (bs (wr S_103 35 0 20 ((S_103 35 0 20) + (1 : Int32))) fun S_128 => some ((0 : Int32), S_128)) else (cal (fX11_fails (1 : Int32) (S_103 35 0 20) S_103) fun r_117 S_117 => some (r_117, S_117))) else (some (r_92, S_92))
theorem cl_mid {fc : Nat → St → Op} {fm : St → Op} {t : Nat → Nat} {L i g1 j1 e1 : Nat} {π π2 : Nat → Nat → Nat} (hT : TXB t L) (a1 : g1 ≤ 3) (d1 : i + 1 ≤ e1 ∧ e1 ≤ L) (hB : BD fc fm t L π (i + 1) g1 j1 e1 π2) : ∃ g j e, g ≤ 3 ∧ (i < e ∧ e ≤ L) ∧ BD (fcC fc) (fmC fm) t L π i g j e π2 := by
  obtain ⟨g2, j2, e2, a2, b2, d2, c2, m2⟩ := mrk (t := t) (L := L) (i := e1) 59 hT d1.2 (by decide)
  obtain ⟨c1, m1⟩ := hB
  refine ⟨cg g1 g2, cj g1 j1 j2, e2, cg_3 a1 (by omega), by omega, fun S o φ h3 hR hC => ?_, fun T hR hP => ⟨fun hg => ?_, fun hg => ?_⟩⟩
  · have fr : Fr c10 S (wr S 1 0 2 (nI (i + 1))) := Fr.rf.wr ⟨rfl, rfl⟩
    obtain ⟨S1, x1, r1, f1, p1⟩ := c1 (wr S 1 0 2 (nI (i + 1))) o φ h3 (hR.go (i + 1)) (hC.frd fr)
    obtain ⟨S2, x2, r2, f2⟩ := c2 S1 (mk φ g1 j1) (mk_3 h3 a1) r1
    have x2 : fX8_skipMark (59 : Int32) S1 = some (0, S2) := x2
    refine ⟨S2, ?_, by rw [← mk_mk]; exact r2, ((c10_P o fr).tr f1).tr (c10_P o f2), p1.frd f2⟩
    unfold fcC
    rw [bs_e, hR.2.2.1, nI_1, cal_of x1, cal_of x2]
  · obtain ⟨z1, z2⟩ := cg_z hg
    have fr : FX c35 x3 T (wr T 35 0 20 (nI (i + 1))) := FX.rf.wx ⟨rfl, rfl⟩ (by unfold x3; omega)
    obtain ⟨T1, y1, r1, p1, f1⟩ := (m1 (wr T 35 0 20 (nI (i + 1))) (hR.go (i + 1)) (hP.fr fr)).1 z1
    obtain ⟨T2, r, y2, h1, -, r2, f2⟩ := m2 T1 r1
    have q2 : r = (59 : Int32) := h1 z2
    have f3 : FX c35 x3 T1 (wr T2 35 0 20 (nI e2)) := f2.wx ⟨rfl, rfl⟩ (by unfold x3; omega)
    refine ⟨wr T2 35 0 20 (nI e2), ?_, r2.go e2, p1.fr f3, (fr.r3.tr f1).tr f3.r3⟩
    unfold fmC
    rw [bs_e, hR.2.2, nI_1, cal_of y1, if_pos (by decide), cal_of y2, if_pos q2, bs_e, r2.2.2, nI_1, ← b2 z2]
  · have fr : FX c35 x3 T (wr T 35 0 20 (nI (i + 1))) := FX.rf.wx ⟨rfl, rfl⟩ (by unfold x3; omega)
    by_cases z1 : g1 = 0
    · subst z1
      rw [cg_0] at hg ⊢
      rw [cj_0]
      obtain ⟨T1, y1, r1, p1, f1⟩ := (m1 (wr T 35 0 20 (nI (i + 1))) (hR.go (i + 1)) (hP.fr fr)).1 rfl
      obtain ⟨T2, r, y2, -, h2, r2, f2⟩ := m2 T1 r1
      have q2 : ¬ r = (59 : Int32) := h2 hg
      have g1 : g2 = 1 := by omega
      have hF : fX11_fails (1 : Int32) (T2 35 0 20) T2 = some (nI g2, wr T2 35 0 19 (nI j2)) := by
        unfold fX11_fails
        rw [bs_e, r2.2.2, g1]
        rfl
      refine ⟨wr T2 35 0 19 (nI j2), ?_, wr_same _ _ _ _ _, ((fr.r3.tr f1).tr f2.r3).r5.wx (Or.inl ⟨rfl, rfl⟩) (by unfold x6; omega)⟩
      unfold fmC
      rw [bs_e, hR.2.2, nI_1, cal_of y1, if_pos (by decide), cal_of y2, if_neg q2, cal_of hF]
    · rw [cg_n z1, cj_n z1]
      obtain ⟨T1, y1, n1, f1⟩ := (m1 (wr T 35 0 20 (nI (i + 1))) (hR.go (i + 1)) (hP.fr fr)).2 z1
      refine ⟨T1, ?_, n1, fr.r3.r5.tr f1⟩
      unfold fmC
      rw [bs_e, hR.2.2, nI_1, cal_of y1, if_neg (nI_nle (by omega) (by omega))]
/-- the word is read; then the body (hm: behind the reference's look at the word) -/
theorem cl_ok {fc : Nat → St → Op} {fm : St → Op} {t : Nat → Nat} {L i g1 j1 e1 : Nat} {π π2 : Nat → Nat → Nat} (hT : TXB t L) (hi : i < L) (h32 : t i ≠ 32) (a1 : g1 ≤ 3) (d1 : i + 1 ≤ e1 ∧ e1 ≤ L) (hB : BD fc fm t L π (i + 1) g1 j1 e1 π2) (hc : ∀ (S : St) (o : Nat) (φ : Nat × Int32), RS S L t i φ → CP S o π → fX8_readClause o S = fcC fc o S) (hm : ∀ T T1 : St, fX11_here T = some (nI (t i), T1) → MR T1 π → fX11_takeClause T = fmC fm T1) : ∃ g j e, g ≤ 3 ∧ (i < e ∧ e ≤ L) ∧ BD fX8_readClause fX11_takeClause t L π i g j e π2 := by
  obtain ⟨g, j, e, a, b, c, m⟩ := cl_mid hT a1 d1 hB
  refine ⟨g, j, e, a, b, fun S o φ h3 hR hC => ?_, fun T hR hP => ?_⟩
  · obtain ⟨S2, x, r⟩ := c S o φ h3 hR hC
    exact ⟨S2, (hc S o φ hR hC).trans x, r⟩
  · obtain ⟨T1, e1, r1, f1⟩ := m_here hT hR (Nat.le_of_lt hi)
    have hs : sk t L i = i := sk_id (fun _ => h32)
    rw [hs, if_pos hi] at e1
    rw [hs] at r1
    have f2 : FX c35 x3 T T1 := f1.mono (fun a o h => h) (fun x h => by unfold x3; omega)
    obtain ⟨w1, w2⟩ := m T1 r1 (hP.fr f2)
    refine ⟨fun hg => ?_, fun hg => ?_⟩
    · obtain ⟨T2, y, u, v, w⟩ := w1 hg
      exact ⟨T2, (hm T T1 e1 (hP.fr f2)).trans y, u, v, f2.r3.tr w⟩
    · obtain ⟨T2, y, u, w⟩ := w2 hg
      exact ⟨T2, (hm T T1 e1 (hP.fr f2)).trans y, u, f2.r3.r5.tr w⟩
/-- the word is at fault -/
theorem cl_bad {t : Nat → Nat} {L i g : Nat} {π : Nat → Nat → Nat} (hT : TXB t L) (hi : i < L) (h32 : t i ≠ 32) (hg0 : g ≠ 0) (hc : ∀ (S : St) (o : Nat) (φ : Nat × Int32), RS S L t i φ → CP S o π → fX8_readClause o S = cal (fX8_mark (nI g) (S 1 0 2) S) fun _ S_21 => some ((0 : Int32), S_21)) (hm : ∀ T T1 : St, fX11_here T = some (nI (t i), T1) → MR T1 π → fX11_takeClause T = cal (fX11_fails (nI g) (T1 35 0 20) T1) fun r S => some (r, S)) : BD fX8_readClause fX11_takeClause t L π i g i i π := by
  refine ⟨fun S o φ h3 hR hC => ?_, fun T hR hP => ⟨fun hg => absurd hg hg0, fun _ => ?_⟩⟩
  · obtain ⟨S2, x, r, f⟩ := c_mark (g := g) (j := i) hR hg0 h3
    refine ⟨S2, ?_, r, c10_P o f, hC.frd f⟩
    rw [hc S o φ hR hC, hR.2.2.1, cal_of x]
  · obtain ⟨T1, e1, r1, f1⟩ := m_here hT hR (Nat.le_of_lt hi)
    have hs : sk t L i = i := sk_id (fun _ => h32)
    rw [hs, if_pos hi] at e1
    rw [hs] at r1
    have f2 : FX c35 x3 T T1 := f1.mono (fun a o h => h) (fun x h => by unfold x3; omega)
    refine ⟨wr T1 35 0 19 (nI i), ?_, wr_same _ _ _ _ _, f2.r3.r5.wx (Or.inl ⟨rfl, rfl⟩) (by unfold x6; omega)⟩
    have hF : fX11_fails (nI g) (T1 35 0 20) T1 = some (nI g, wr T1 35 0 19 (nI i)) := by
      unfold fX11_fails
      rw [bs_e, r1.2.2]
    rw [hm T T1 e1 (hP.fr f2), cal_of hF]
theorem clause {t : Nat → Nat} {L i : Nat} {π : Nat → Nat → Nat} (hT : TXB t L) (hi : i < L) (h32 : t i ≠ 32) (hV : VP π) : ∃ g j e π2, g ≤ 3 ∧ (i ≤ e ∧ e ≤ L) ∧ (g = 0 → i < e) ∧ VP π2 ∧ BD fX8_readClause fX11_takeClause t L π i g j e π2 := by
  have hc := hT.2 i hi
  have w2 := hV.2.2.1
  have w3 := hV.2.2.2.2.1.1
  have q1 : (nI (t i) = (116 : Int32)) ↔ t i = 116 := nI_c (b := 116) hc (by decide)
  have q2 : (nI (t i) = (109 : Int32)) ↔ t i = 109 := nI_c (b := 109) hc (by decide)
  have q3 : (nI (t i) = (115 : Int32)) ↔ t i = 115 := nI_c (b := 115) hc (by decide)
  have lt : ∀ (S : St) (φ : Nat × Int32), RS S L t i φ → fX8_letter S = some (nI (t i), S) := fun S φ hR => by
    rw [c_letter hT hR (Nat.le_of_lt hi), if_pos hi]
  have bad : ∀ g, wfN (t i) (π 0 0) (π 0 2) (π 0 3) = g → g ≠ 0 → ∀ (S : St) (o : Nat) (φ : Nat × Int32), RS S L t i φ → CP S o π → fX8_readClause o S = cal (fX8_mark (nI g) (S 1 0 2) S) fun _ S_21 => some ((0 : Int32), S_21) := by
    intro g hw hg S o φ hR hC
    have hg3 : g ≤ 3 := by
      rw [← hw]; unfold wfN
      split
      · split <;> omega
      · split
        · omega
        · split
          · split <;> omega
          · split
            · split <;> omega
            · omega
    unfold fX8_readClause
    rw [cal_of (lt S φ hR), cal_of (c_word hC hV hc), hw, if_neg (nI_ne0 (by omega) (by omega))]
  by_cases hP : π 0 0 = 0
  · by_cases h : t i = 116
    · obtain ⟨g1, j1, e1, π2, a1, d1, v1, hB⟩ := body_pits (t := t) (L := L) (i := i + 1) hT hi hV
      have kc : ∀ (S : St) (o : Nat) (φ : Nat × Int32), RS S L t i φ → CP S o π → fX8_readClause o S = fcC fX8_readPits o S := by
        intro S o φ hR hC
        have hw : wfN (t i) (π 0 0) (π 0 2) (π 0 3) = 0 := by unfold wfN; rw [if_pos hP, if_pos h]
        unfold fX8_readClause fcC
        rw [cal_of (lt S φ hR), cal_of (c_word hC hV hc), hw, if_pos (show nI 0 = (0 : Int32) from rfl), bs_e, bs_e]
        simp only [jn_e]
        rw [if_pos (q1.mpr h)]
      have km : ∀ T T1 : St, fX11_here T = some (nI (t i), T1) → MR T1 π → fX11_takeClause T = fmC fX11_takePits T1 := by
        intro T T1 e1 hM
        unfold fX11_takeClause fmC
        rw [cal_of e1]
        simp only [jn_e]
        rw [if_pos (q1.mpr h), if_neg (show ¬ (0 : Int32) < 0 by decide), if_pos (show (0 : Int32) ≤ 0 by decide), cal_of (m_full0 hM.1 hV.1), if_pos hP, if_pos rfl, bs_e, bs_e, m_body0]
      obtain ⟨g, j, e, a, b, B⟩ := cl_ok hT hi h32 a1 d1 hB kc km
      exact ⟨g, j, e, π2, a, by omega, fun _ => b.1, v1, B⟩
    · refine ⟨1, i, i, π, by omega, by omega, fun z => by omega, hV, cl_bad hT hi h32 (by omega) (bad 1 (by unfold wfN; rw [if_pos hP, if_neg h]) (by omega)) (fun T T1 e1 hM => ?_)⟩
      have h23 : T1 35 0 23 = 0 := by rw [hM.1, hP]; rfl
      unfold fX11_takeClause
      rw [cal_of e1]
      simp only [jn_e]
      rw [if_neg (fun z => h (q1.mp z))]
      by_cases h2 : t i = 109
      · rw [if_pos (q2.mpr h2), if_neg (show ¬ (1 : Int32) < 0 by decide), if_neg (show ¬ (1 : Int32) ≤ 0 by decide), if_pos h23]; rfl
      · rw [if_neg (fun z => h2 (q2.mp z))]
        by_cases h3 : t i = 115
        · rw [if_pos (q3.mpr h3), if_neg (show ¬ (2 : Int32) < 0 by decide), if_neg (show ¬ (2 : Int32) ≤ 0 by decide), if_pos h23]; rfl
        · rw [if_neg (fun z => h3 (q3.mp z)), if_pos (show (-1 : Int32) < 0 by decide)]; rfl
  · have h23 : ∀ T1 : St, MR T1 π → ¬ T1 35 0 23 = 0 := fun T1 hM z => hP (by
      rw [hM.1] at z
      exact nI_inj (b := 0) (by have := hV.1; omega) (by decide) z)
    by_cases h : t i = 116
    · refine ⟨3, i, i, π, by omega, by omega, fun z => by omega, hV, cl_bad hT hi h32 (by omega) (bad 3 (by unfold wfN; rw [if_neg hP, if_pos h]) (by omega)) (fun T T1 e1 hM => ?_)⟩
      unfold fX11_takeClause
      rw [cal_of e1]
      simp only [jn_e]
      rw [if_pos (q1.mpr h), if_neg (show ¬ (0 : Int32) < 0 by decide), if_pos (show (0 : Int32) ≤ 0 by decide), cal_of (m_full0 hM.1 hV.1), if_neg hP, if_neg n10]; rfl
    · by_cases h2 : t i = 109
      · by_cases h6 : 6 ≤ π 0 2
        · refine ⟨3, i, i, π, by omega, by omega, fun z => by omega, hV, cl_bad hT hi h32 (by omega) (bad 3 (by unfold wfN; rw [if_neg hP, if_neg h, if_pos h2, if_pos h6]) (by omega)) (fun T T1 e1 hM => ?_)⟩
          unfold fX11_takeClause
          rw [cal_of e1]
          simp only [jn_e]
          rw [if_neg (fun z => h (q1.mp z)), if_pos (q2.mpr h2), if_neg (show ¬ (1 : Int32) < 0 by decide), if_neg (show ¬ (1 : Int32) ≤ 0 by decide), if_neg (h23 T1 hM), cal_of (m_full1 hM.2.2.1 w2), if_pos (show π 0 2 = 6 by omega), if_neg n10]; rfl
        · obtain ⟨g1, j1, e1, π2, a1, d1, v1, hB⟩ := body_man (t := t) (L := L) (i := i + 1) hT hi hV (by omega) hP
          have kc : ∀ (S : St) (o : Nat) (φ : Nat × Int32), RS S L t i φ → CP S o π → fX8_readClause o S = fcC fX8_readMan o S := by
            intro S o φ hR hC
            have hw : wfN (t i) (π 0 0) (π 0 2) (π 0 3) = 0 := by unfold wfN; rw [if_neg hP, if_neg h, if_pos h2, if_neg h6]
            unfold fX8_readClause fcC
            rw [cal_of (lt S φ hR), cal_of (c_word hC hV hc), hw, if_pos (show nI 0 = (0 : Int32) from rfl), bs_e, bs_e]
            simp only [jn_e]
            rw [if_neg (fun z => h (q1.mp z)), if_pos (q2.mpr h2)]
          have km : ∀ T T1 : St, fX11_here T = some (nI (t i), T1) → MR T1 π → fX11_takeClause T = fmC fX11_takeMan T1 := by
            intro T T1 e1 hM
            unfold fX11_takeClause fmC
            rw [cal_of e1]
            simp only [jn_e]
            rw [if_neg (fun z => h (q1.mp z)), if_pos (q2.mpr h2), if_neg (show ¬ (1 : Int32) < 0 by decide), if_neg (show ¬ (1 : Int32) ≤ 0 by decide), if_neg (h23 T1 hM), cal_of (m_full1 hM.2.2.1 w2), if_neg (show ¬ π 0 2 = 6 by omega), if_pos rfl, bs_e, bs_e, m_body1]
          obtain ⟨g, j, e, a, b, B⟩ := cl_ok hT hi h32 a1 d1 hB kc km
          exact ⟨g, j, e, π2, a, by omega, fun _ => b.1, v1, B⟩
      · by_cases h3 : t i = 115
        · by_cases h8 : 8 ≤ π 0 3
          · refine ⟨3, i, i, π, by omega, by omega, fun z => by omega, hV, cl_bad hT hi h32 (by omega) (bad 3 (by unfold wfN; rw [if_neg hP, if_neg h, if_neg h2, if_pos h3, if_pos h8]) (by omega)) (fun T T1 e1 hM => ?_)⟩
            unfold fX11_takeClause
            rw [cal_of e1]
            simp only [jn_e]
            rw [if_neg (fun z => h (q1.mp z)), if_neg (fun z => h2 (q2.mp z)), if_pos (q3.mpr h3), if_neg (show ¬ (2 : Int32) < 0 by decide), if_neg (show ¬ (2 : Int32) ≤ 0 by decide), if_neg (h23 T1 hM), cal_of (m_full2 hM.2.2.2.1 w3), if_pos (show π 0 3 = 8 by omega), if_neg n10]; rfl
          · obtain ⟨g1, j1, e1, π2, a1, d1, v1, hB⟩ := body_saying (t := t) (L := L) (i := i + 1) hT hi hV (by omega) hP
            have kc : ∀ (S : St) (o : Nat) (φ : Nat × Int32), RS S L t i φ → CP S o π → fX8_readClause o S = fcC fX8_readSaying o S := by
              intro S o φ hR hC
              have hw : wfN (t i) (π 0 0) (π 0 2) (π 0 3) = 0 := by unfold wfN; rw [if_neg hP, if_neg h, if_neg h2, if_pos h3, if_neg h8]
              unfold fX8_readClause fcC
              rw [cal_of (lt S φ hR), cal_of (c_word hC hV hc), hw, if_pos (show nI 0 = (0 : Int32) from rfl), bs_e, bs_e]
              simp only [jn_e]
              rw [if_neg (fun z => h (q1.mp z)), if_neg (fun z => h2 (q2.mp z))]
            have km : ∀ T T1 : St, fX11_here T = some (nI (t i), T1) → MR T1 π → fX11_takeClause T = fmC fX11_takeSaying T1 := by
              intro T T1 e1 hM
              unfold fX11_takeClause fmC
              rw [cal_of e1]
              simp only [jn_e]
              rw [if_neg (fun z => h (q1.mp z)), if_neg (fun z => h2 (q2.mp z)), if_pos (q3.mpr h3), if_neg (show ¬ (2 : Int32) < 0 by decide), if_neg (show ¬ (2 : Int32) ≤ 0 by decide), if_neg (h23 T1 hM), cal_of (m_full2 hM.2.2.2.1 w3), if_neg (show ¬ π 0 3 = 8 by omega), if_pos rfl, bs_e, bs_e, m_body2]
            obtain ⟨g, j, e, a, b, B⟩ := cl_ok hT hi h32 a1 d1 hB kc km
            exact ⟨g, j, e, π2, a, by omega, fun _ => b.1, v1, B⟩
        · refine ⟨1, i, i, π, by omega, by omega, fun z => by omega, hV, cl_bad hT hi h32 (by omega) (bad 1 (by unfold wfN; rw [if_neg hP, if_neg h, if_neg h2, if_neg h3]) (by omega)) (fun T T1 e1 hM => ?_)⟩
          unfold fX11_takeClause
          rw [cal_of e1]
          simp only [jn_e]
          rw [if_neg (fun z => h (q1.mp z)), if_neg (fun z => h2 (q2.mp z)), if_neg (fun z => h3 (q3.mp z)), if_pos (show (-1 : Int32) < 0 by decide)]; rfl
