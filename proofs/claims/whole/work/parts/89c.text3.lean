def CNum (t : Nat → Nat) (L i lo hi g j e v : Nat) : Prop := ∀ (S : St) (φ : Nat × Int32), φ.1 ≤ 3 → RS S L t i φ → ∃ S2, fX8_readNumber (nI lo) (nI hi) S = some (nI v, S2) ∧ RS S2 L t e (mk φ g j) ∧ Fr c10 S S2
def MNum (t : Nat → Nat) (L i lo hi g j e v : Nat) : Prop := ∀ T : St, RM T L t i → (g = 0 → ∃ T2, fX11_takeNumber (nI lo) (nI hi) T = some (0, T2) ∧ RM T2 L t e ∧ T2 35 0 21 = nI v ∧ FX c35 x3 T T2) ∧ (g ≠ 0 → ∃ T2, fX11_takeNumber (nI lo) (nI hi) T = some (nI g, T2) ∧ T2 35 0 19 = nI j ∧ FX c35 x4 T T2)
theorem num {t : Nat → Nat} {L i : Nat} (lo hi : Nat) (hT : TXB t L) (hi' : i ≤ L) (hlo : lo ≤ hi) (hh : hi ≤ 60) : ∃ g j e v, g ≤ 3 ∧ (lo ≤ v ∧ v ≤ hi) ∧ (i ≤ e ∧ e ≤ L) ∧ CNum t L i lo hi g j e v ∧ MNum t L i lo hi g j e v := by
  obtain ⟨⟨b1, b2⟩, -, -⟩ := sk_b (t := t) hi'
  obtain ⟨⟨d1, d2⟩, -, -⟩ := dg_b (t := t) b2
  have h2 := nfN_2 t L i lo hi
  exact ⟨nfN t L i lo hi, sk t L i, dg t L (sk t L i), nrN t L i lo hi, by omega, nrN_b hlo, ⟨by omega, d2⟩, fun S φ h3 hR => c_number hT hR hi' hlo hh h3, fun T hR => m_number hT hR hi' hlo hh⟩
def CMk (t : Nat → Nat) (L i c g j e : Nat) : Prop := ∀ (S : St) (φ : Nat × Int32), φ.1 ≤ 3 → RS S L t i φ → ∃ S2, fX8_skipMark (nI c) S = some (0, S2) ∧ RS S2 L t e (mk φ g j) ∧ Fr c10 S S2
def MMk (t : Nat → Nat) (L i c g j : Nat) : Prop := ∀ T : St, RM T L t i → ∃ T2 r, fX11_here T = some (r, T2) ∧ (g = 0 → r = nI c) ∧ (g ≠ 0 → ¬ r = nI c) ∧ RM T2 L t j ∧ FX c35 x3 T T2
theorem c_letter {S : St} {L : Nat} {t : Nat → Nat} {i : Nat} {φ : Nat × Int32} (hT : TXB t L) (hR : RS S L t i φ) (hi : i ≤ L) : fX8_letter S = some (if i < L then nI (t i) else -1, S) := by
  have hL := hT.1
  unfold fX8_letter
  rw [hR.1, hR.2.2.1]
  by_cases h : i < L
  · rw [if_neg (nI_ge h (by omega)), ck_nI (show i < 240 by omega) (by omega), nI_clamp (by omega), hR.2.1 i h, if_pos h]
  · rw [if_pos (nI_le (by omega) (by omega)), if_neg h]
theorem mrk {t : Nat → Nat} {L i : Nat} (c : Nat) (hT : TXB t L) (hi : i ≤ L) (hc : c ≤ 255) : ∃ g j e, g ≤ 1 ∧ (g = 0 → e = j + 1) ∧ (i ≤ e ∧ e ≤ L) ∧ CMk t L i c g j e ∧ MMk t L i c g j := by
  obtain ⟨⟨b1, b2⟩, -, -⟩ := sk_b (t := t) hi
  by_cases q : sk t L i < L ∧ t (sk t L i) = c
  · refine ⟨0, sk t L i, sk t L i + 1, by omega, fun _ => rfl, by omega, fun S φ h3 hR => ?_, fun T hR => ?_⟩
    · obtain ⟨S1, e1, r1, f1⟩ := c_skip hT hR hi
      refine ⟨wr S1 1 0 2 (nI (sk t L i + 1)), ?_, by rw [mk_0]; exact r1.go _, f1.wr ⟨rfl, rfl⟩⟩
      unfold fX8_skipMark
      rw [cal_of e1, cal_of (c_letter hT r1 b2), if_pos q.1, q.2, if_pos rfl, bs_e, r1.2.2.1, nI_1]
    · obtain ⟨T1, e1, r1, f1⟩ := m_here hT hR hi
      exact ⟨T1, _, e1, fun _ => by rw [if_pos q.1, q.2], fun z => absurd rfl z, r1, f1.mono (fun a o h => h) (fun x h => by unfold x3; omega)⟩
  · have hne : ¬ (if sk t L i < L then nI (t (sk t L i)) else -1) = nI c := fun z => by
      by_cases h : sk t L i < L
      · have h2 := hT.2 _ h
        rw [if_pos h] at z
        exact q ⟨h, nI_inj (by omega) (by omega) z⟩
      · rw [if_neg h] at z
        exact nI_m1 (show c < 2 ^ 31 by omega) z.symm
    refine ⟨1, sk t L i, sk t L i, by omega, fun z => by omega, by omega, fun S φ h3 hR => ?_, fun T hR => ?_⟩
    · obtain ⟨S1, e1, r1, f1⟩ := c_skip hT hR hi
      obtain ⟨S2, e2, r2, f2⟩ := c_mark (g := 1) (j := sk t L i) r1 (by decide) h3
      have e2 : fX8_mark (1 : Int32) (nI (sk t L i)) S1 = some (0, S2) := e2
      refine ⟨S2, ?_, r2, f1.tr f2⟩
      unfold fX8_skipMark
      rw [cal_of e1, cal_of (c_letter hT r1 b2), if_neg hne, r1.2.2.1, cal_of e2]
    · obtain ⟨T1, e1, r1, f1⟩ := m_here hT hR hi
      exact ⟨T1, _, e1, fun z => by omega, fun _ => hne, r1, f1.mono (fun a o h => h) (fun x h => by unfold x3; omega)⟩
/-- one fault behind another -/
def cg (g g2 : Nat) : Nat := if g = 0 then g2 else g
def cj (g j j2 : Nat) : Nat := if g = 0 then j2 else j
theorem cg_0 (g2 : Nat) : cg 0 g2 = g2 := rfl
theorem cj_0 (j j2 : Nat) : cj 0 j j2 = j2 := rfl
theorem cg_n {g : Nat} (h : g ≠ 0) (g2 : Nat) : cg g g2 = g := if_neg h
theorem cj_n {g : Nat} (h : g ≠ 0) (j j2 : Nat) : cj g j j2 = j := if_neg h
theorem cg_3 {g g2 : Nat} (h : g ≤ 3) (h2 : g2 ≤ 3) : cg g g2 ≤ 3 := by
  unfold cg
  split <;> assumption
theorem cg_z {g g2 : Nat} (h : cg g g2 = 0) : g = 0 ∧ g2 = 0 := by
  by_cases q : g = 0
  · subst q; exact ⟨rfl, h⟩
  · rw [cg_n q] at h; exact absurd h q
theorem mk_mk (φ : Nat × Int32) (g j g2 j2 : Nat) : mk (mk φ g j) g2 j2 = mk φ (cg g g2) (cj g j j2) := by
  by_cases q : g = 0
  · subst q; rw [mk_0, cg_0, cj_0]
  · rw [cg_n q, cj_n q]
    by_cases h : φ.1 = 0
    · rw [mk_g h q, mk_n (show (g, nI j).1 ≠ 0 from q)]
    · rw [mk_n h, mk_n h]
def pu2 (π : Nat → Nat → Nat) (a i v : Nat) : Nat → Nat → Nat := fun b j => if b = a ∧ j = i then v else π b j
theorem pu2_s (π : Nat → Nat → Nat) (a i v : Nat) : pu2 π a i v a i = v := if_pos ⟨rfl, rfl⟩
theorem pu2_n {π : Nat → Nat → Nat} {a i v b j : Nat} (h : ¬ (b = a ∧ j = i)) : pu2 π a i v b j = π b j := if_neg h
def MR (T : St) (π : Nat → Nat → Nat) : Prop := T 35 0 23 = nI (π 0 0) ∧ T 35 0 24 = nI (π 0 1) ∧ T 35 0 25 = nI (π 0 2) ∧ T 35 0 28 = nI (π 0 3) ∧ (∀ m, m < π 0 2 → T 47 0 m = nI (π 1 m) ∧ ∀ p, p < 5 → T 48 0 (5 * m + p) = nI (π (4 + m) p)) ∧ ∀ s, s < π 0 3 → T 49 0 s = nI (π 2 s) ∧ T 50 0 s = nI (π 3 s)
theorem MR.fr {T T2 : St} {π : Nat → Nat → Nat} (h : MR T π) (f : FX c35 x3 T T2) : MR T2 π := by
  unfold MR
  rw [f.2 23 (by unfold x3; omega), f.2 24 (by unfold x3; omega), f.2 25 (by unfold x3; omega), f.2 28 (by unfold x3; omega), f.1 47 0 (by unfold c35; omega), f.1 48 0 (by unfold c35; omega), f.1 49 0 (by unfold c35; omega), f.1 50 0 (by unfold c35; omega)]
  exact h
def cP (o a q : Nat) : Prop := (a = 1 ∧ q = 0) ∨ ((a = 3 ∨ a = 4 ∨ a = 7 ∨ a = 8) ∧ q = o) ∨ (a = 6 ∧ 6 * o ≤ q ∧ q < 6 * o + 6)
/-- the body of a clause: g its fault, at j; else it ends at e, and the plan is π2 -/
def BD (fc : Nat → St → Op) (fm : St → Op) (t : Nat → Nat) (L : Nat) (π : Nat → Nat → Nat) (i g j e : Nat) (π2 : Nat → Nat → Nat) : Prop :=
  (∀ (S : St) (o : Nat) (φ : Nat × Int32), φ.1 ≤ 3 → RS S L t i φ → CP S o π → ∃ S2, fc o S = some (0, S2) ∧ RS S2 L t e (mk φ g j) ∧ Fr (cP o) S S2 ∧ CP S2 o π2) ∧
  (∀ T : St, RM T L t i → MR T π → (g = 0 → ∃ T2, fm T = some (0, T2) ∧ RM T2 L t e ∧ MR T2 π2 ∧ FX cR x5 T T2) ∧ (g ≠ 0 → ∃ T2, fm T = some (nI g, T2) ∧ T2 35 0 19 = nI j ∧ FX cR x6 T T2))
theorem FX.r3 {T T2 : St} (h : FX c35 x3 T T2) : FX cR x5 T T2 := h.mono (fun a o z => Or.inl z) (fun x z => by unfold x3 at z; unfold x5; omega)
theorem FX.r4 {T T2 : St} (h : FX c35 x4 T T2) : FX cR x6 T T2 := h.mono (fun a o z => Or.inl z) (fun x z => by unfold x4 at z; unfold x6; omega)
theorem FX.r5 {T T2 : St} (h : FX cR x5 T T2) : FX cR x6 T T2 := h.mono (fun a o z => z) (fun x z => by unfold x5 at z; unfold x6; omega)
theorem c10_P {S S2 : St} (o : Nat) (h : Fr c10 S S2) : Fr (cP o) S S2 := h.mono (fun a q z => Or.inl z)
theorem CP.frd {S S2 : St} {o : Nat} {π : Nat → Nat → Nat} (h : CP S o π) (f : Fr c10 S S2) : CP S2 o π := h.fr (f 3 o (by unfold c10; omega)) (f 4 o (by unfold c10; omega)) (fun q => f 6 q (by unfold c10; omega)) (f 7 o (by unfold c10; omega)) (f 8 o (by unfold c10; omega))
theorem RS.wo {S : St} {L : Nat} {t : Nat → Nat} {i a o x : Nat} {v : Int32} {φ : Nat × Int32} (h : RS S L t i φ) (ha : a ≠ 1 ∧ a ≠ 2) : RS (wr S a o x v) L t i φ := h.fr (wr_other (fun z => ha.1 z.1.symm)) (wr_other (fun z => ha.2 z.1.symm))
theorem CP.w3 {S : St} {o x v : Nat} {π : Nat → Nat → Nat} (h : CP S o π) (hx : x < 2) : CP (wr S 3 o x (nI v)) o (pu2 π 0 x v) := by
  refine ⟨fun i hi => ?_, fun m hm => ?_, fun s hs => ?_⟩
  · by_cases e : i = x
    · subst e; rw [wr_same, pu2_s]
    · rw [wr_i (by omega), pu2_n (by omega)]; exact h.1 i hi
  · rw [pu2_n (by omega)] at hm
    refine ⟨?_, fun p hp => ?_⟩
    · rw [wr_i (by omega), pu2_n (by omega)]; exact (h.2.1 m hm).1
    · rw [wr_i (by omega), pu2_n (by omega)]; exact (h.2.1 m hm).2 p hp
  · rw [pu2_n (by omega)] at hs
    rw [wr_i (by omega), wr_i (by omega), pu2_n (by omega), pu2_n (by omega)]
    exact h.2.2 s hs
theorem body_pits {t : Nat → Nat} {L i : Nat} {π : Nat → Nat → Nat} (hT : TXB t L) (hi : i ≤ L) (hV : VP π) : ∃ g j e π2, g ≤ 3 ∧ (i ≤ e ∧ e ≤ L) ∧ VP π2 ∧ BD fX8_readPits fX11_takePits t L π i g j e π2 := by
  obtain ⟨g1, j1, e1, v1, a1, b1, d1, c1, m1⟩ := num (t := t) (L := L) (i := i) 1 3 hT hi (by decide) (by decide)
  obtain ⟨g2, j2, e2, v2, a2, b2, d2, c2, m2⟩ := num (t := t) (L := L) (i := e1) 1 9 hT d1.2 (by decide) (by decide)
  refine ⟨cg g1 g2, cj g1 j1 j2, e2, pu2 (pu2 π 0 0 v1) 0 1 v2, cg_3 a1 a2, by omega, ?_, fun S o φ h3 hR hC => ?_, fun T hR hP => ⟨fun hg => ?_, fun hg => ?_⟩⟩
  · obtain ⟨w0, w1, w2, w3, w4, w5⟩ := hV
    have ne : ∀ a b, a ≠ 0 ∨ 2 ≤ b → pu2 (pu2 π 0 0 v1) 0 1 v2 a b = π a b := fun a b h => by rw [pu2_n (by omega), pu2_n (by omega)]
    refine ⟨b1.2, b2.2, w2, fun m hm => ?_, ⟨w4.1, fun s hs => ?_⟩, fun z => ?_⟩
    · rw [ne 1 m (by omega)]
      exact ⟨(w3 m hm).1, fun p hp => by rw [ne (4 + m) p (by omega)]; exact (w3 m hm).2 p hp⟩
    · rw [ne 2 s (by omega), ne 3 s (by omega)]
      exact w4.2 s hs
    · have z : v1 = 0 := z
      omega
  · obtain ⟨S1, x1, r1, f1⟩ := c1 S φ h3 hR
    have x1 : fX8_readNumber (1 : Int32) (3 : Int32) S = some (nI v1, S1) := x1
    obtain ⟨S2, x2, r2, f2⟩ := c2 (wr S1 3 o 0 (nI v1)) (mk φ g1 j1) (mk_3 h3 a1) (r1.wo (by omega))
    have x2 : fX8_readNumber (1 : Int32) (9 : Int32) (wr S1 3 o 0 (nI v1)) = some (nI v2, S2) := x2
    refine ⟨wr S2 3 o 1 (nI v2), ?_, ?_, ?_, ?_⟩
    · unfold fX8_readPits
      rw [cal_of x1, bs_e, cal_of x2, bs_e]
    · rw [← mk_mk]; exact r2.wo (by omega)
    · exact (((c10_P o f1).wr (by unfold cP; omega)).tr (c10_P o f2)).wr (by unfold cP; omega)
    · exact (((hC.frd f1).w3 (by omega)).frd f2).w3 (by omega)
  · obtain ⟨z1, z2⟩ := cg_z hg
    obtain ⟨T1, y1, r1, n1, f1⟩ := (m1 T hR).1 z1
    obtain ⟨T2, y2, r2, n2, f2⟩ := (m2 T1 r1).1 z2
    have y1 : fX11_takeNumber (1 : Int32) (3 : Int32) T = some (0, T1) := y1
    have y2 : fX11_takeNumber (1 : Int32) (9 : Int32) T1 = some (0, T2) := y2
    have hP2 := (hP.fr f1).fr f2
    refine ⟨wr (wr T2 35 0 23 (nI v1)) 35 0 24 (nI v2), ?_, (r2.wx (by omega)).wx (by omega), ?_, ((f1.r3.tr f2.r3).wx (Or.inl ⟨rfl, rfl⟩) (by unfold x5; omega)).wx (Or.inl ⟨rfl, rfl⟩) (by unfold x5; omega)⟩
    · unfold fX11_takePits
      rw [cal_of y1, if_pos (by decide), bi_e, cal_of y2, bs_e, bs_e, n1, wr_i (by omega), n2]
    · obtain ⟨w0, w1, w2, w3, w4, w5⟩ := hP2
      have ne : ∀ a b, a ≠ 0 ∨ 2 ≤ b → pu2 (pu2 π 0 0 v1) 0 1 v2 a b = π a b := fun a b h => by rw [pu2_n (by omega), pu2_n (by omega)]
      refine ⟨by rw [wr_i (by omega), wr_same]; rfl, by rw [wr_same]; rfl, by rw [wr_i (by omega), wr_i (by omega)]; exact w2, by rw [wr_i (by omega), wr_i (by omega)]; exact w3, fun m hm => ?_, fun s hs => ?_⟩
      · rw [wr_i (by omega), wr_i (by omega), ne 1 m (by omega)]
        exact ⟨(w4 m hm).1, fun p hp => by rw [wr_i (by omega), wr_i (by omega), ne (4 + m) p (by omega)]; exact (w4 m hm).2 p hp⟩
      · rw [wr_i (by omega), wr_i (by omega), wr_i (by omega), wr_i (by omega), ne 2 s (by omega), ne 3 s (by omega)]
        exact w5 s hs
  · by_cases z1 : g1 = 0
    · subst z1
      rw [cg_0] at hg ⊢
      rw [cj_0]
      obtain ⟨T1, y1, r1, n1, f1⟩ := (m1 T hR).1 rfl
      obtain ⟨T2, y2, n2, f2⟩ := (m2 T1 r1).2 hg
      have y1 : fX11_takeNumber (1 : Int32) (3 : Int32) T = some (0, T1) := y1
      have y2 : fX11_takeNumber (1 : Int32) (9 : Int32) T1 = some (nI g2, T2) := y2
      refine ⟨wr (wr T2 35 0 23 (nI v1)) 35 0 24 (wr T2 35 0 23 (nI v1) 35 0 21), ?_, by rw [wr_i (by omega), wr_i (by omega)]; exact n2, ((f1.r3.r5.tr f2.r4).wx (Or.inl ⟨rfl, rfl⟩) (by unfold x6; omega)).wx (Or.inl ⟨rfl, rfl⟩) (by unfold x6; omega)⟩
      unfold fX11_takePits
      rw [cal_of y1, if_pos (by decide), bi_e, cal_of y2, bs_e, bs_e, n1]
    · rw [cg_n z1, cj_n z1]
      obtain ⟨T1, y1, n1, f1⟩ := (m1 T hR).2 z1
      have y1 : fX11_takeNumber (1 : Int32) (3 : Int32) T = some (nI g1, T1) := y1
      refine ⟨T1, ?_, n1, f1.r4⟩
      unfold fX11_takePits
      rw [cal_of y1, if_neg (nI_nle (by omega) (by omega))]
